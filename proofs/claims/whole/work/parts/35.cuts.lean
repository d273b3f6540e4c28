/-- the model with its tables anew -/
abbrev mW (M : Mdl) (K W : Fn) (wc : Int32) (B : Fn) (bc bs : Int32) : Mdl := (z_now M, z_rd M, z_past M, z_deeds M, z_img M, z_kept M, z_text M, z_let M, z_at M, z_tok M, z_tat M, z_sw M, z_si M, z_seen M, z_aP M, z_aL M, z_items M, K, W, wc, B, bc, bs)
theorem mC_le {u : Nat} {cv : Nat → Nat → Bool} {mf : Nat → Nat → Nat → Bool} (k l s : Nat) : mC u cv mf k l s ≤ 1000 := by
  cases k with
  | zero => unfold mC; split <;> omega
  | succ k =>
    unfold mC
    split
    · exact mnF_le 6
    · omega
section FC
variable {g : Glob} {S : Scn} {O : Oth}
set_option maxRecDepth 10000 in
theorem L103g {f : Fn} : (lay (S, O)).set 103 (ia 48 f) = lay (S, o_M' O (z_cuts' (o_M O) f)) := by rfl
set_option maxRecDepth 10000 in
theorem L104g {f : Fn} : (lay (S, O)).set 104 (ia 8 f) = lay (S, o_M' O (z_way' (o_M O) f)) := by rfl
set_option maxRecDepth 10000 in
theorem L105g {f : Fn} : (lay (S, O)).set 105 (ia 8 f) = lay (S, o_M' O (z_best' (o_M O) f)) := by rfl
theorem L103 {M : Mdl} {K K' W : Fn} {wc : Int32} {B : Fn} {bc bs : Int32} : (lay (S, o_M' O (mW M K W wc B bc bs))).set 103 (ia 48 K') = lay (S, o_M' O (mW M K' W wc B bc bs)) := L103g
theorem L104 {M : Mdl} {K W' W : Fn} {wc : Int32} {B : Fn} {bc bs : Int32} : (lay (S, o_M' O (mW M K W wc B bc bs))).set 104 (ia 8 W') = lay (S, o_M' O (mW M K W' wc B bc bs)) := L104g
theorem L105 {M : Mdl} {K B' W : Fn} {wc : Int32} {B : Fn} {bc bs : Int32} : (lay (S, o_M' O (mW M K W wc B bc bs))).set 105 (ia 8 B') = lay (S, o_M' O (mW M K W wc B' bc bs)) := L105g
abbrev mcv (O : Oth) : Nat → Nat → Bool := cvL (fcr (z_now (o_M O)))
abbrev mmf (O : Oth) : Nat → Nat → Nat → Bool := mfA (z_now (o_M O)) (fcr (z_now (o_M O))) (spr (z_now (o_M O)))
theorem am_findCuts {m u : Nat} {K0 W : Fn} {wc : Int32} {B : Fn} {bc bs : Int32} (hm : z_now (o_M O) 4 = nI m) (h8 : m ≤ 8) (hu : u < 64) : AC g mX6_findCuts [.ref 94, .int (nI u)] (lay (S, o_M' O (mW (o_M O) K0 W wc B bc bs))) (fun r h' => r = none ∧ ∃ K, (∀ l s, l < m → s < 6 → K (6 * l + s) = nI (mC u (mcv O) (mmf O) (m - 1 - l) l s)) ∧ h' = lay (S, o_M' O (mW (o_M O) K W wc B bc bs))) := by
  have key := dn (n := m) (P := fun j => ∀ K : Fn, (∀ l s, m - j ≤ l → l < m → s < 6 → K (6 * l + s) = nI (mC u (mcv O) (mmf O) (m - 1 - l) l s)) → AW g mX6_findCuts (fun r h' => r = none ∧ ∃ K, (∀ l s, l < m → s < 6 → K (6 * l + s) = nI (mC u (mcv O) (mmf O) (m - 1 - l) l s)) ∧ h' = lay (S, o_M' O (mW (o_M O) K W wc B bc bs))) 0 0 11 [some (.ref 94), some (.int (nI u)), some (.int (nI m)), some (.int (nI (m - j) - 1)), none, none, none, none, none] [] (lay (S, o_M' O (mW (o_M O) K W wc B bc bs)))) ?_ (fun j hj ih => ?_) 0 (Nat.zero_le _)
  · refine acw gdX6_findCuts 60 rfl ⟨_, _, rfl, vlit (j := 4) (by decide) (by decide), ?_⟩
    have k0 := key K0 (fun l s h1 h2 => absurd h1 (by omega))
    rw [Nat.sub_zero, ← hm] at k0
    exact k0
  · intro K hK
    rw [Nat.sub_self]
    exact lpw gdX6_findCuts 60 ⟨fun _ => ⟨rfl, K, fun l s hl hs => hK l s (by omega) hl hs, rfl⟩, fun h => absurd (by decide) h⟩
  · intro K hK
    obtain ⟨l, hl⟩ : ∃ l, m - j = l + 1 := ⟨m - j - 1, by omega⟩
    rw [hl, nI_pred]
    rw [show m - (j + 1) = l by omega] at ih
    refine lpw gdX6_findCuts 60 ⟨fun h => absurd h (nlt0 l (by omega)), fun _ => ?_⟩
    have key2 := dn (n := 6) (P := fun s => ∀ K : Fn, (∀ k v, l ≤ k → k < m → v < 6 → (k = l → v < s) → K (6 * k + v) = nI (mC u (mcv O) (mmf O) (m - 1 - k) k v)) → AW g mX6_findCuts (fun r h' => r = none ∧ ∃ K, (∀ l s, l < m → s < 6 → K (6 * l + s) = nI (mC u (mcv O) (mmf O) (m - 1 - l) l s)) ∧ h' = lay (S, o_M' O (mW (o_M O) K W wc B bc bs))) 0 0 18 [some (.ref 94), some (.int (nI u)), some (.int (nI m)), some (.int (nI l)), some (.int (nI s)), none, none, none, none] [] (lay (S, o_M' O (mW (o_M O) K W wc B bc bs)))) ?_ (fun s hs ihs => ?_) 0 (Nat.zero_le _)
    · exact key2 K (fun k v h1 h2 h3 h4 => hK k v (Nat.le_of_not_lt (fun z => absurd (h4 (by omega)) (by omega))) h2 h3)
    · intro K hK
      refine lpw gdX6_findCuts 60 ⟨fun _ => ?_, fun h => absurd (by decide) h⟩
      refine awf ?_ (ih K (fun k v h1 h2 h3 => hK k v h1 h2 h3 (fun _ => h3)))
      exact ⟨rfl, rfl, rfl, congrArg Value.int (Int32.sub_eq_add_neg _ _), trivial⟩
    · intro K hK
      have ei : 6 * nI l + nI s = nI (6 * l + s) := by simp only [nlit, pk_mul, nI_add]
      have J177 : ∀ v : Int32, v = nI (mC u (mcv O) (mmf O) (m - 1 - l) l s) → AW g mX6_findCuts (fun r h' => r = none ∧ ∃ K, (∀ l s, l < m → s < 6 → K (6 * l + s) = nI (mC u (mcv O) (mmf O) (m - 1 - l) l s)) ∧ h' = lay (S, o_M' O (mW (o_M O) K W wc B bc bs))) 0 0 177 [some (.ref 94), some (.int (nI u)), some (.int (nI m)), some (.int (nI l)), some (.int (nI s)), none, none, none, none] [.int v, .int (6 * nI l + nI s), .ref 103] (lay (S, o_M' O (mW (o_M O) K W wc B bc bs))) := by
        intro v hv
        refine lpw gdX6_findCuts 60 ⟨_, _, rfl, vin ei (by omega) (by decide), ?_⟩
        rw [vcl ei (by omega)]
        refine aw_hp L103 (awl (by rw [← nI_1]; rfl) (ihs (upd K (6 * l + s) v) (fun k w h1 h2 h3 h4 => ?_)))
        by_cases hkw : k = l ∧ w = s
        · obtain ⟨rfl, rfl⟩ := hkw
          rw [pk_us]
          exact hv
        · rw [pk_un (by omega)]
          exact hK k w h1 h2 h3 (fun z => by have := h4 z; omega)
      have hml : nI m - 1 = nI (m - 1) := by
        obtain ⟨q, hq⟩ : ∃ q, m = q + 1 := ⟨m - 1, by omega⟩
        rw [hq, nI_pred]; rfl
      have J55 : ∀ b : Bool, b = (u.testBit s && mcv O l s) → AW g mX6_findCuts (fun r h' => r = none ∧ ∃ K, (∀ l s, l < m → s < 6 → K (6 * l + s) = nI (mC u (mcv O) (mmf O) (m - 1 - l) l s)) ∧ h' = lay (S, o_M' O (mW (o_M O) K W wc B bc bs))) 0 0 55 [some (.ref 94), some (.int (nI u)), some (.int (nI m)), some (.int (nI l)), some (.int (nI s)), some (.int (nI 1000)), none, none, none] [.int (bi b)] (lay (S, o_M' O (mW (o_M O) K W wc B bc bs))) := by
        intro b hb
        refine lpw gdX6_findCuts 60 ?_
        cases b with
        | false =>
          refine lpw gdX6_findCuts 60 ⟨fun h => absurd h (by decide), fun _ => ⟨fun _ => ?_, fun h => absurd rfl h⟩⟩
          refine ⟨fun h => absurd rfl h, fun _ => ?_⟩
          refine awf ?_ (J177 1000 ?_)
          · exact ⟨rfl, rfl, rfl, rfl, rfl, trivial⟩
          · have : mC u (mcv O) (mmf O) (m - 1 - l) l s = 1000 := by
              cases m - 1 - l <;> (unfold mC; rw [if_neg (by rw [← hb]; decide)])
            rw [this]
            rfl
        | true =>
          by_cases hlm : l = m - 1
          · refine lpw gdX6_findCuts 60 ⟨fun h => absurd h (by decide), fun _ => ⟨fun h => absurd h n01, fun _ => ⟨fun _ => ?_, fun h => ?_⟩⟩⟩
            · refine ⟨fun _ => ⟨fun h => absurd (show nI l = nI m - 1 by rw [hml, hlm]) h, fun _ => ?_⟩, fun h => absurd h n01⟩
              refine awf ?_ (J177 0 ?_)
              · exact ⟨rfl, rfl, rfl, rfl, rfl, trivial⟩
              · rw [show m - 1 - l = 0 by omega]
                unfold mC
                rw [if_pos hb.symm]
                rfl
            · refine absurd (show nI m - 1 ≤ nI l from ?_) h
              rw [hml]
              exact nle (by omega) (by omega)
          · obtain ⟨k, hk⟩ : ∃ k, m - 1 - l = k + 1 := ⟨m - 1 - l - 1, by omega⟩
            have hk2 : m - 1 - (l + 1) = k := by omega
            have eM : mC u (mcv O) (mmf O) (k + 1) l s = mnF (fun t => mmf O l s t) (fun t => mC u (mcv O) (mmf O) k (l + 1) t + (if s = t then 0 else 1)) 1000 6 := by
              show (if _ then _ else _) = _
              rw [if_pos hb.symm]
            rw [hk, eM] at J177
            refine dn (n := 6) (P := fun t => AW g mX6_findCuts (fun r h' => r = none ∧ ∃ K, (∀ l s, l < m → s < 6 → K (6 * l + s) = nI (mC u (mcv O) (mmf O) (m - 1 - l) l s)) ∧ h' = lay (S, o_M' O (mW (o_M O) K W wc B bc bs))) 0 0 60 [some (.ref 94), some (.int (nI u)), some (.int (nI m)), some (.int (nI l)), some (.int (nI s)), some (.int (nI (mnF (fun t => mmf O l s t) (fun t => mC u (mcv O) (mmf O) k (l + 1) t + (if s = t then 0 else 1)) 1000 t))), some (.int 1), some (.int (nI t)), none] [] (lay (S, o_M' O (mW (o_M O) K W wc B bc bs)))) ?_ (fun t ht iht => ?_) 0 (Nat.zero_le _)
            · refine lpw gdX6_findCuts 60 ⟨fun _ => ?_, fun h => absurd (by decide) h⟩
              refine ⟨fun _ => ⟨fun _ => ?_, fun h => ?_⟩, fun h => absurd h n01⟩
              · refine awf ?_ (J177 _ rfl)
                exact ⟨rfl, rfl, rfl, rfl, rfl, trivial⟩
              · have h' : nI l = nI m - 1 := h
                rw [hml, neqI (by omega) (by omega)] at h'
                exact absurd h' hlm
            · have hmn := mnF_le (p := fun t => mmf O l s t) (c := fun t => mC u (mcv O) (mmf O) k (l + 1) t + (if s = t then 0 else 1)) (X := 1000) t
              have hmc := mC_le (u := u) (cv := mcv O) (mf := mmf O) k (l + 1) t
              have J134 : ∀ v w : Int32, v = nI (mnF (fun t => mmf O l s t) (fun t => mC u (mcv O) (mmf O) k (l + 1) t + (if s = t then 0 else 1)) 1000 (t + 1)) → AW g mX6_findCuts (fun r h' => r = none ∧ ∃ K, (∀ l s, l < m → s < 6 → K (6 * l + s) = nI (mC u (mcv O) (mmf O) (m - 1 - l) l s)) ∧ h' = lay (S, o_M' O (mW (o_M O) K W wc B bc bs))) 0 0 134 [some (.ref 94), some (.int (nI u)), some (.int (nI m)), some (.int (nI l)), some (.int (nI s)), some (.int (nI (mnF (fun t => mmf O l s t) (fun t => mC u (mcv O) (mmf O) k (l + 1) t + (if s = t then 0 else 1)) 1000 t))), some (.int 1), some (.int (nI t)), some (.int w)] [.int v] (lay (S, o_M' O (mW (o_M O) K W wc B bc bs))) := by
                intro v w hv
                subst hv
                refine lpw gdX6_findCuts 60 (awf ?_ iht)
                rw [← nI_1 t]
                exact ⟨rfl, rfl, rfl, rfl, rfl, rfl, rfl, rfl, trivial⟩
              have J105 : ∀ x : Nat, x = (if s = t then 0 else 1) → AW g mX6_findCuts (fun r h' => r = none ∧ ∃ K, (∀ l s, l < m → s < 6 → K (6 * l + s) = nI (mC u (mcv O) (mmf O) (m - 1 - l) l s)) ∧ h' = lay (S, o_M' O (mW (o_M O) K W wc B bc bs))) 0 0 105 [some (.ref 94), some (.int (nI u)), some (.int (nI m)), some (.int (nI l)), some (.int (nI s)), some (.int (nI (mnF (fun t => mmf O l s t) (fun t => mC u (mcv O) (mmf O) k (l + 1) t + (if s = t then 0 else 1)) 1000 t))), some (.int 1), some (.int (nI t)), none] [.int (nI x), .int (nI (mC u (mcv O) (mmf O) k (l + 1) t))] (lay (S, o_M' O (mW (o_M O) K W wc B bc bs))) := by
                intro x hx
                have hx1 : x ≤ 1 := by rw [hx]; split <;> omega
                have ev : nI (mC u (mcv O) (mmf O) k (l + 1) t) + nI x = nI (mC u (mcv O) (mmf O) k (l + 1) t + x) := nI_add _ _
                refine lpw gdX6_findCuts 60 ⟨fun h => ?_, fun h => ?_⟩
                · refine J134 _ _ ?_
                  rw [ev] at h
                  have h' := (nleI (by omega) (by omega)).mp h
                  refine congrArg nI (if_neg ?_).symm
                  show ¬ ((mmf O l s t && decide (mC u (mcv O) (mmf O) k (l + 1) t + (if s = t then 0 else 1) < mnF (fun t => mmf O l s t) (fun t => mC u (mcv O) (mmf O) k (l + 1) t + (if s = t then 0 else 1)) 1000 t)) = true)
                  rw [Bool.and_eq_true, decide_eq_true_eq]
                  rintro ⟨-, z⟩
                  rw [hx] at h'
                  omega
                · rw [ev] at h
                  have h' : ¬ mnF (fun t => mmf O l s t) (fun t => mC u (mcv O) (mmf O) k (l + 1) t + (if s = t then 0 else 1)) 1000 t ≤ mC u (mcv O) (mmf O) k (l + 1) t + x := fun z => h ((nleI (by omega) (by omega)).mpr z)
                  refine ac_to (am_mayFollow (g := g) (S := S) (O := o_M' O (mW (o_M O) K W wc B bc bs)) (l := l) (s := s) (t := t) (by omega) hs ht) ⟨fun hf => ?_, fun hf => ?_⟩
                  · have hf' : mmf O l s t = false := (bi_e0 _).mp hf
                    refine J134 _ _ ?_
                    refine congrArg nI (if_neg ?_).symm
                    show ¬ ((mmf O l s t && decide (mC u (mcv O) (mmf O) k (l + 1) t + (if s = t then 0 else 1) < mnF (fun t => mmf O l s t) (fun t => mC u (mcv O) (mmf O) k (l + 1) t + (if s = t then 0 else 1)) 1000 t)) = true)
                    rw [Bool.and_eq_true]
                    rintro ⟨z, -⟩
                    rw [hf'] at z
                    cases z
                  · have hf' : mmf O l s t = true := by rw [bi_e0, Bool.not_eq_false] at hf; exact hf
                    refine J134 _ _ ?_
                    rw [ev]
                    refine congrArg nI ?_
                    have : mnF (fun t => mmf O l s t) (fun t => mC u (mcv O) (mmf O) k (l + 1) t + (if s = t then 0 else 1)) 1000 (t + 1) = mC u (mcv O) (mmf O) k (l + 1) t + (if s = t then 0 else 1) := by
                      refine if_pos ?_
                      show (mmf O l s t && decide (mC u (mcv O) (mmf O) k (l + 1) t + (if s = t then 0 else 1) < mnF (fun t => mmf O l s t) (fun t => mC u (mcv O) (mmf O) k (l + 1) t + (if s = t then 0 else 1)) 1000 t)) = true
                      rw [Bool.and_eq_true, decide_eq_true_eq]
                      refine ⟨hf', ?_⟩
                      rw [hx] at h'
                      omega
                    rw [this, hx]
              have ek : 6 * (nI l + 1) + nI t = nI (6 * (l + 1) + t) := by rw [nI_1]; simp only [nlit, pk_mul, nI_add]
              refine lpw gdX6_findCuts 60 ⟨fun h => absurd h (nge (n := 6) (by omega) (by omega)), fun _ => ⟨fun h => absurd h n01, fun _ => ⟨fun h => ?_, fun _ => ?_⟩⟩⟩
              · have h' : nI m - 1 ≤ nI l := h
                rw [hml] at h'
                exact absurd h' (nge (by omega) (by omega))
              refine ⟨_, _, rfl, vin ek (by omega) (by decide), ?_⟩
              rw [vcl ek (by omega), show z_cuts (o_M (S, o_M' O (mW (o_M O) K W wc B bc bs)).snd) (6 * (l + 1) + t) = nI (mC u (mcv O) (mmf O) k (l + 1) t) from (by rw [← hk2]; exact hK (l + 1) t (by omega) (by omega) ht (fun z => by omega))]
              refine ⟨fun h => J105 1 ?_, fun h => J105 0 ?_⟩
              · rw [if_neg (fun z => h (by rw [z]))]
              · rw [if_pos ((neqI (by omega) (by omega)).mp h)]
      refine lpw gdX6_findCuts 60 ⟨fun h => absurd h (nge (n := 6) (by omega) (by omega)), fun _ => ⟨fun h => ?_, fun h => ?_⟩⟩
      · refine J55 false ?_
        have : u.testBit s = false := by rw [tbI u hu s hs] at h; simpa using h
        rw [this]; rfl
      · have h1 := (tbI u hu s hs).mp h
        refine ac_to (am_covers (g := g) (S := S) (O := o_M' O (mW (o_M O) K W wc B bc bs)) (s := s) (l := l) hs) ⟨fun hc => ?_, fun hc => ?_⟩
        · have hc' : mcv O l s = false := (bi_e0 _).mp hc
          exact J55 false (by rw [h1, hc']; rfl)
        · have hc' : mcv O l s = true := by rw [bi_e0, Bool.not_eq_false] at hc; exact hc
          exact J55 true (by rw [h1, hc']; rfl)
end FC

/-- a line's shot after a shot was struck -/
def stk (s : Nat) (o : Option Nat) : Option Nat := match o with
  | none => none
  | some t => if t = s then none else if s < t then some (t - 1) else some t
theorem m9le {s : Nat} (h : s ≤ 2000) : (-9 : Int32) ≤ nI s := by
  rw [Int32.le_iff_toInt_le, toI_lit h]
  have : (-9 : Int32).toInt = -9 := by decide
  omega
theorem upd_id {F : Fn} {k : Nat} {v : Int32} (h : F k = v) : upd F k v = F := by
  funext i
  by_cases hi : i = k
  · subst hi; rw [pk_us, h]
  · rw [pk_un hi]
theorem cpy_up {f : Fn} {a b k : Nat} (h : b < a) : upd (va_cpy f f a b k) (b + k) (va_cpy f f a b k (a + k)) = va_cpy f f a b (k + 1) := by
  rw [← cpy_step (k := k), pk_cpy_out (j := a + k) (by omega)]
theorem cnt_ext {p : Nat → Bool} {m : Nat} : ∀ j, (∀ l, m ≤ l → l < m + j → p l = false) → cnt p (m + j) = cnt p m := by
  intro j
  induction j with
  | zero => intro _; rfl
  | succ j ih =>
    intro h
    rw [← Nat.add_assoc, cnt_f (h (m + j) (by omega) (by omega))]
    exact ih (fun l h1 h2 => h l h1 (by omega))
section SK
variable {g : Glob} {S : Scn} {O : Oth}
theorem ds_step {s n k : Nat} {F : Fn} {Post : Option Value → AH → Prop} (hn : s_ns S = nI n) (h6 : n ≤ 6) (hk : k < 7 * (n - 1)) (K : AW g mX3_dropShot Post 0 0 5 [some (.ref 1), some (.int (nI s)), some (.int (nI (k + 1)))] [] (lay (s_fc' S (upd F k (F (k + 7))), O))) : AW g mX3_dropShot Post 0 0 5 [some (.ref 1), some (.int (nI s)), some (.int (nI k))] [] (lay (s_fc' S F, O)) := by
  obtain ⟨n, rfl⟩ : ∃ j, n = j + 1 := ⟨n - 1, by omega⟩
  have e1 : (nI (n + 1) - 1) * 7 = nI (7 * n) := by rw [nI_pred, nlit, pk_mul, Nat.mul_comm]
  have e2 : nI k + 7 = nI (k + 7) := by simp only [nlit, nI_add]
  refine lpw gdX3_dropShot 40 ⟨fun h => ?_, fun _ => ?_⟩
  · have h' : (s_ns S - 1) * 7 ≤ nI k := h
    rw [hn, e1] at h'
    exact absurd h' (nge (by omega) (by omega))
  · refine ⟨_, _, rfl, vin e2 (by omega) (by decide), ?_⟩
    refine ⟨_, _, rfl, vlit (by omega) (by decide), ?_⟩
    rw [vcl e2 (by omega), vcl (x := nI k) rfl (by omega)]
    exact awl (by rw [← nI_1]; rfl) K
theorem ds_exit {s n : Nat} {F : Fn} (hn : s_ns S = nI (n + 1)) (h6 : n + 1 ≤ 6) : AW g mX3_dropShot (fun r h' => r = none ∧ h' = lay (s_ns' (s_fc' S F) (nI n), O)) 0 0 5 [some (.ref 1), some (.int (nI s)), some (.int (nI (7 * n)))] [] (lay (s_fc' S F, O)) := by
  have e0 : nI (n + 1) - 1 = nI n := nI_pred n
  have e1 : (nI (n + 1) - 1) * 7 = nI (7 * n) := by rw [nI_pred, nlit, pk_mul, Nat.mul_comm]
  refine lpw gdX3_dropShot 40 ⟨fun _ => ⟨rfl, ?_⟩, fun h => absurd (show (s_ns S - 1) * 7 ≤ _ by rw [hn, e1]; exact nle (by omega) (by omega)) h⟩
  show List.set (lay _) 1 (.inr (3, [_, _, _, _, _, .int (s_ns S - 1)])) = _
  rw [hn, e0]
  rfl
theorem ac_dropShot {s n : Nat} (hn : s_ns S = nI (n + 1)) (h6 : n + 1 ≤ 6) (hs : s ≤ n) : ACe g mX3_dropShot [.ref 1, .int (nI s)] (lay (S, O)) none (lay (s_ns' (s_fc' S (va_cpy (s_fc S) (s_fc S) (7 * s + 7) (7 * s) (7 * (n - s)))) (nI n), O)) := by
  have e0 : lay (S, O) = lay (s_fc' S (va_cpy (s_fc S) (s_fc S) (7 * s + 7) (7 * s) 0), O) := congrArg (fun f => lay (s_fc' S f, O)) cpy_0.symm
  have key := dn (n := 7 * (n - s)) (P := fun c => AW g mX3_dropShot (fun r h' => r = none ∧ h' = lay (s_ns' (s_fc' S (va_cpy (s_fc S) (s_fc S) (7 * s + 7) (7 * s) (7 * (n - s)))) (nI n), O)) 0 0 5 [some (.ref 1), some (.int (nI s)), some (.int (nI (7 * s + c)))] [] (lay (s_fc' S (va_cpy (s_fc S) (s_fc S) (7 * s + 7) (7 * s) c), O))) ?_ (fun c hc ih => ?_) 0 (Nat.zero_le _)
  · rw [← e0] at key
    refine acw gdX3_dropShot 40 rfl (awl ?_ key)
    rw [show nI (7 * s + 0) = nI s * 7 by rw [Nat.add_zero, Nat.mul_comm, ← pk_mul]; rfl]
    rfl
  · rw [show 7 * s + 7 * (n - s) = 7 * n by omega]
    exact ds_exit hn h6
  · refine ds_step hn h6 (by omega) ?_
    rw [show 7 * s + c + 7 = 7 * s + 7 + c by omega, cpy_up (by omega)]
    exact ih
theorem ls_step {s k c m n : Nat} {F : Fn} {o : Option Nat} {Post : Option Value → AH → Prop} (hm : s_nl S = nI m) (h8 : m ≤ 8) (hk : k < m) (hs : s ≤ 6) (hF : F k = sh o) (ho : okO n o) (h6 : n ≤ 6) (K : AW g mX3_loseShotInEdit Post 0 0 4 [some (.ref 1), some (.int (nI s)), some (.int (nI (if o = some s then c + 1 else c))), some (.int (nI (k + 1)))] [] (lay (s_ed' S (upd F k (sh (stk s o))), O))) : AW g mX3_loseShotInEdit Post 0 0 4 [some (.ref 1), some (.int (nI s)), some (.int (nI c)), some (.int (nI k))] [] (lay (s_ed' S F, O)) := by
  refine lpw gdX3_loseShotInEdit 60 ⟨fun h => ?_, fun _ => ?_⟩
  · have h' : s_nl S ≤ nI k := h
    rw [hm] at h'
    exact absurd h' (nge (by omega) (by omega))
  refine ⟨_, _, rfl, vlit (by omega) (by decide), ?_⟩
  rw [vcl (x := nI k) rfl (by omega)]
  cases o with
  | none =>
    have e : stk s none = none := rfl
    rw [e, upd_id hF, if_neg (by simp)] at K
    refine ⟨fun _ => ?_, fun h => absurd ((show F k = nI s from h).symm.trans hF) (nI_ne9 (by omega))⟩
    refine ⟨_, _, rfl, vlit (by omega) (by decide), ?_⟩
    rw [vcl (x := nI k) rfl (by omega)]
    refine ⟨fun _ => awl (by rw [← nI_1]; rfl) K, fun h => absurd (show F k ≤ nI s by rw [hF]; exact m9le (by omega)) h⟩
  | some t =>
    have ht := ho t rfl
    by_cases h1 : t = s
    · subst h1
      have e : stk t (some t) = none := by simp [stk]
      rw [e, if_pos rfl] at K
      refine ⟨fun h => absurd (show F k = nI t from hF) h, fun _ => ?_⟩
      refine ⟨_, _, rfl, vlit (by omega) (by decide), ?_⟩
      rw [vcl (x := nI k) rfl (by omega)]
      exact awl (by rw [← nI_1, ← nI_1]; rfl) K
    · rw [if_neg (by simp [h1])] at K
      refine ⟨fun _ => ?_, fun h => absurd ((neqI (by omega) (by omega)).mp ((show F k = nI s from h).symm.trans hF)).symm h1⟩
      refine ⟨_, _, rfl, vlit (by omega) (by decide), ?_⟩
      rw [vcl (x := nI k) rfl (by omega)]
      by_cases h2 : s < t
      · have e : stk s (some t) = some (t - 1) := by simp [stk, h1, h2]
        rw [e] at K
        have e3 : F k - 1 = sh (some (t - 1)) := by
          rw [hF]
          obtain ⟨u, rfl⟩ : ∃ u, t = u + 1 := ⟨t - 1, by omega⟩
          exact nI_pred u
        refine ⟨fun h => ?_, fun _ => ?_⟩
        · have h' : F k ≤ nI s := h
          rw [hF] at h'
          exact absurd ((nleI (by omega) (by omega)).mp h') (by omega)
        refine ⟨_, _, rfl, vlit (by omega) (by decide), ?_⟩
        refine ⟨_, _, rfl, vlit (by omega) (by decide), ?_⟩
        rw [vcl (x := nI k) rfl (by omega)]
        rw [← e3] at K
        exact awl (by rw [← nI_1]; rfl) K
      · have e : stk s (some t) = some t := by simp [stk, h1, h2]
        rw [e, upd_id hF] at K
        refine ⟨fun _ => awl (by rw [← nI_1]; rfl) K, fun h => absurd (show F k ≤ nI s by rw [hF]; exact (nleI (by omega) (by omega)).mpr (by omega)) h⟩
theorem ac_loseShot {s m n : Nat} {eo : Nat → Option Nat} (hm : s_nl S = nI m) (h8 : m ≤ 8) (hs : s ≤ 6) (h6 : n ≤ 6) (hE : ∀ l, l < m → s_ed S l = sh (eo l) ∧ okO n (eo l)) : ACe g mX3_loseShotInEdit [.ref 1, .int (nI s)] (lay (S, O)) (some (.int (nI (cnt (fun l => decide (eo l = some s)) m)))) (lay (s_ed' S (va_cpy (fun l => sh (stk s (eo l))) (s_ed S) 0 0 m), O)) := by
  have e0 : lay (S, O) = lay (s_ed' S (va_cpy (fun l => sh (stk s (eo l))) (s_ed S) 0 0 0), O) := congrArg (fun f => lay (s_ed' S f, O)) cpy_0.symm
  have key := dn (n := m) (P := fun c => AW g mX3_loseShotInEdit (fun r h' => r = some (.int (nI (cnt (fun l => decide (eo l = some s)) m))) ∧ h' = lay (s_ed' S (va_cpy (fun l => sh (stk s (eo l))) (s_ed S) 0 0 m), O)) 0 0 4 [some (.ref 1), some (.int (nI s)), some (.int (nI (cnt (fun l => decide (eo l = some s)) c))), some (.int (nI c))] [] (lay (s_ed' S (va_cpy (fun l => sh (stk s (eo l))) (s_ed S) 0 0 c), O))) ?_ (fun c hc ih => ?_) 0 (Nat.zero_le _)
  · rw [← e0] at key
    exact acw gdX3_loseShotInEdit 40 rfl key
  · refine lpw gdX3_loseShotInEdit 60 ⟨fun _ => ⟨rfl, rfl⟩, fun h => absurd (show s_nl S ≤ _ by rw [hm]; exact nle (by omega) (by omega)) h⟩
  · refine ls_step (o := eo c) (n := n) hm h8 hc hs ?_ (hE c hc).2 h6 ?_
    · rw [pk_cpy_out (by omega)]
      exact (hE c hc).1
    · have e1 := cpy_step (f := fun l => sh (stk s (eo l))) (t := s_ed S) (i := 0) (j := 0) (k := c)
      rw [Nat.zero_add] at e1
      rw [e1]
      have e2 : (if eo c = some s then cnt (fun l => decide (eo l = some s)) c + 1 else cnt (fun l => decide (eo l = some s)) c) = cnt (fun l => decide (eo l = some s)) (c + 1) := by
        by_cases h : eo c = some s
        · rw [if_pos h, cnt_t (by simp [h])]
        · rw [if_neg h, cnt_f (by simp [h])]
      rw [e2]
      exact ih
theorem mk_step {s k : Nat} {F : Fn} {Post : Option Value → AH → Prop} (hk : k + 7 < 56) (K : AW g mX6_strikes Post 0 0 22 [some (.ref 94), some (.int (nI s)), some (.int (nI (k + 1))), none, none] [] (lay (S, o_M' O (z_now' (o_M O) (upd F k (F (k + 7))))))) : AW g mX6_strikes Post 0 0 22 [some (.ref 94), some (.int (nI s)), some (.int (nI k)), none, none] [] (lay (S, o_M' O (z_now' (o_M O) F))) := by
  have e2 : nI k + 7 = nI (k + 7) := by simp only [nlit, nI_add]
  refine lpw gdX6_strikes 40 ⟨fun h => ?_, fun _ => ?_⟩
  · rw [e2] at h
    exact absurd h (nge (n := 56) (by omega) (by omega))
  · refine ⟨_, _, rfl, vin e2 (by omega) (by decide), ?_⟩
    refine ⟨_, _, rfl, vlit (by omega) (by decide), ?_⟩
    rw [vcl e2 (by omega), vcl (x := nI k) rfl (by omega)]
    exact awl (by rw [← nI_1]; rfl) K
theorem mk_mid {s n : Nat} {F : Fn} {Post : Option Value → AH → Prop} (hF : F 13 = nI (n + 1)) (K : AW g mX6_strikes Post 0 0 67 [some (.ref 94), some (.int (nI s)), some (.int (nI 0)), some (.int (nI 0)), none] [] (lay (S, o_M' O (z_now' (o_M O) (upd F 13 (nI n)))))) : AW g mX6_strikes Post 0 0 22 [some (.ref 94), some (.int (nI s)), some (.int (nI 49)), none, none] [] (lay (S, o_M' O (z_now' (o_M O) F))) := by
  have e0 : F 13 - 1 = nI n := by rw [hF]; exact nI_pred n
  refine lpw gdX6_strikes 40 ⟨fun _ => ?_, fun h => absurd (by decide) h⟩
  refine ⟨_, _, rfl, vlit (j := 13) (by decide) (by decide), ?_⟩
  refine ⟨_, _, rfl, vlit (j := 13) (by decide) (by decide), ?_⟩
  rw [← e0] at K
  exact K
theorem mk_132 {s l : Nat} {x w y : Int32} {F : Fn} {Post : Option Value → AH → Prop} (hl : l < 8) (K : AW g mX6_strikes Post 0 0 67 [some (.ref 94), some (.int (nI s)), some (.int y), some (.int (nI (l + 1))), none] [] (lay (S, o_M' O (z_now' (o_M O) (upd F (56 + l) x))))) : AW g mX6_strikes Post 0 0 132 [some (.ref 94), some (.int (nI s)), some (.int y), some (.int (nI l)), some (.int w)] [.int x, .int (56 + nI l), .ref 95] (lay (S, o_M' O (z_now' (o_M O) F))) := by
  have e1 : 56 + nI l = nI (56 + l) := by simp only [nlit, nI_add]
  refine lpw gdX6_strikes 40 ?_
  refine ⟨_, _, rfl, vin e1 (by omega) (by decide), ?_⟩
  rw [vcl e1 (by omega)]
  refine awf ?_ K
  refine ⟨rfl, rfl, rfl, ?_, trivial⟩
  rw [← nI_1]
theorem mk_96 {s l c n : Nat} {o : Option Nat} {v : Int32} {F : Fn} {Post : Option Value → AH → Prop} (hl : l < 8) (hs : s ≤ 6) (ho : okO n o) (h6 : n ≤ 6) {d : Nat} (hv : nI c + v = nI d) (K : AW g mX6_strikes Post 0 0 67 [some (.ref 94), some (.int (nI s)), some (.int (nI d)), some (.int (nI (l + 1))), none] [] (lay (S, o_M' O (z_now' (o_M O) (upd F (56 + l) (sh (stk s o))))))) : AW g mX6_strikes Post 0 0 96 [some (.ref 94), some (.int (nI s)), some (.int (nI c)), some (.int (nI l)), some (.int (sh o))] [.int v, .int (nI c)] (lay (S, o_M' O (z_now' (o_M O) F))) := by
  rw [← hv] at K
  refine lpw gdX6_strikes 40 ?_
  cases o with
  | none =>
    refine ⟨fun _ => ⟨fun _ => mk_132 hl K, fun h => absurd (m9le (by omega)) h⟩, fun h => absurd h.symm (nI_ne9 (by omega))⟩
  | some t =>
    have ht := ho t rfl
    refine ⟨fun h => ?_, fun h => ?_⟩
    · have h1 : ¬ t = s := fun z => h (congrArg nI z)
      refine ⟨fun h2 => ?_, fun h2 => ?_⟩
      · have h2 := (nleI (by omega) (by omega)).mp h2
        rw [show stk s (some t) = some t by simp [stk, h1]; omega] at K
        exact mk_132 hl K
      · have h2 : ¬ t ≤ s := fun z => h2 ((nleI (by omega) (by omega)).mpr z)
        rw [show stk s (some t) = some (t - 1) by simp [stk, h1]; omega] at K
        obtain ⟨u, rfl⟩ : ∃ u, t = u + 1 := ⟨t - 1, by omega⟩
        show AW _ _ _ _ _ _ _ [.int (nI (u + 1) - 1), _, _] _
        rw [nI_pred]
        exact mk_132 hl K
    · have h1 : t = s := (neqI (by omega) (by omega)).mp h
      rw [show stk s (some t) = none by simp [stk, h1]] at K
      exact mk_132 hl K
theorem mk_67 {s l c n : Nat} {o : Option Nat} {F : Fn} {Post : Option Value → AH → Prop} (hl : l < 8) (hs : s ≤ 6) (hF : F (56 + l) = sh o) (ho : okO n o) (h6 : n ≤ 6) (K : AW g mX6_strikes Post 0 0 67 [some (.ref 94), some (.int (nI s)), some (.int (nI (if o = some s then c + 1 else c))), some (.int (nI (l + 1))), none] [] (lay (S, o_M' O (z_now' (o_M O) (upd F (56 + l) (sh (stk s o))))))) : AW g mX6_strikes Post 0 0 67 [some (.ref 94), some (.int (nI s)), some (.int (nI c)), some (.int (nI l)), none] [] (lay (S, o_M' O (z_now' (o_M O) F))) := by
  have e1 : 56 + nI l = nI (56 + l) := by simp only [nlit, nI_add]
  refine lpw gdX6_strikes 40 ⟨fun h => absurd h (nge (n := 8) (by omega) (by omega)), fun _ => ?_⟩
  refine ⟨_, _, rfl, vin e1 (by omega) (by decide), ?_⟩
  rw [vcl e1 (by omega)]
  show (_ → _) ∧ (_ → _)
  rw [show z_now (o_M (S, o_M' O (z_now' (o_M O) F)).snd) (56 + l) = sh o from hF]
  refine ⟨fun h => mk_96 hl hs ho h6 (v := 0) (d := c) ?_ ?_, fun h => mk_96 hl hs ho h6 (v := 1) (d := c + 1) (nI_1 c) ?_⟩
  · rw [nzero, nI_add, Nat.add_zero]
  · rwa [if_neg] at K
    intro z
    exact h (by rw [z]; rfl)
  · rwa [if_pos] at K
    cases o with
    | none => exact absurd h.symm (nI_ne9 (by omega))
    | some t => exact congrArg some ((neqI (by have := ho t rfl; omega) (by omega)).mp h)
theorem am_strikes {s n : Nat} {eo : Nat → Option Nat} {G : Fn} {kn : Int32} (h6 : n + 1 ≤ 6) (hs : s ≤ n) (hn : z_now (o_M O) 13 = nI (n + 1)) (hE : ∀ l, l < 8 → z_now (o_M O) (56 + l) = sh (eo l) ∧ okO (n + 1) (eo l)) (dM : ACe g mX6_note [.ref 94] (lay (S, O)) none (lay (S, o_M' O (z_deeds' (z_past' (o_M O) G) kn)))) : ACe g mX6_strikes [.ref 94, .int (nI s)] (lay (S, O)) (some (.int (nI (cnt (fun l => decide (eo l = some s)) 8)))) (lay (S, o_M' O (z_now' (z_deeds' (z_past' (o_M O) G) kn) (va_cpy (fun l => sh (stk s (eo l))) (upd (va_cpy (z_now (o_M O)) (z_now (o_M O)) (14 + 7 * s + 7) (14 + 7 * s) (35 - 7 * s)) 13 (nI n)) 0 56 8)))) := by
  have M1 := am_isShot' (g := g) (S := S) (O := O) (nI s) hn (by omega)
  rw [ln_t (by omega) (by omega)] at M1
  refine acw gdX6_strikes 40 rfl (ac_to M1 ⟨fun _ => ac_to dM ?_, fun h => absurd h n01⟩)
  have A1 : ∀ (R : Fn), R = upd (va_cpy (z_now (o_M O)) (z_now (o_M O)) (14 + 7 * s + 7) (14 + 7 * s) (35 - 7 * s)) 13 (nI n) → AW g mX6_strikes (fun r h' => r = some (.int (nI (cnt (fun l => decide (eo l = some s)) 8))) ∧ h' = lay (S, o_M' O (z_now' (z_deeds' (z_past' (o_M O) G) kn) (va_cpy (fun l => sh (stk s (eo l))) R 0 56 8)))) 0 0 67 [some (.ref 94), some (.int (nI s)), some (.int (nI 0)), some (.int (nI 0)), none] [] (lay (S, o_M' O (z_now' (z_deeds' (z_past' (o_M O) G) kn) R))) := by
    intro R hR
    have hR2 : ∀ l, l < 8 → R (56 + l) = sh (eo l) := fun l hl => by
      rw [hR, pk_un (by omega), pk_cpy_out (by omega)]
      exact (hE l hl).1
    clear hR
    have e0 : lay (S, o_M' O (z_now' (z_deeds' (z_past' (o_M O) G) kn) R)) = lay (S, o_M' O (z_now' (z_deeds' (z_past' (o_M O) G) kn) (va_cpy (fun l => sh (stk s (eo l))) R 0 56 0))) := congrArg (fun f => lay (S, o_M' O (z_now' (z_deeds' (z_past' (o_M O) G) kn) f))) cpy_0.symm
    have key := dn (n := 8) (P := fun c => AW g mX6_strikes (fun r h' => r = some (.int (nI (cnt (fun l => decide (eo l = some s)) 8))) ∧ h' = lay (S, o_M' O (z_now' (z_deeds' (z_past' (o_M O) G) kn) (va_cpy (fun l => sh (stk s (eo l))) R 0 56 8)))) 0 0 67 [some (.ref 94), some (.int (nI s)), some (.int (nI (cnt (fun l => decide (eo l = some s)) c))), some (.int (nI c)), none] [] (lay (S, o_M' O (z_now' (z_deeds' (z_past' (o_M O) G) kn) (va_cpy (fun l => sh (stk s (eo l))) R 0 56 c))))) ?_ (fun c hc ih => ?_) 0 (Nat.zero_le _)
    · rw [e0]
      exact key
    · exact lpw gdX6_strikes 40 ⟨fun _ => ⟨rfl, rfl⟩, fun h => absurd (by decide) h⟩
    · refine mk_67 (S := S) (O := o_M' O (z_deeds' (z_past' (o_M O) G) kn)) (o := eo c) (n := n + 1) hc (by omega) ?_ (hE c hc).2 h6 ?_
      · rw [pk_cpy_out (by omega)]
        exact hR2 c hc
      · have e1 := cpy_step (f := fun l => sh (stk s (eo l))) (t := R) (i := 0) (j := 56) (k := c)
        rw [Nat.zero_add] at e1
        rw [e1]
        have e2 : (if eo c = some s then cnt (fun l => decide (eo l = some s)) c + 1 else cnt (fun l => decide (eo l = some s)) c) = cnt (fun l => decide (eo l = some s)) (c + 1) := by
          by_cases h : eo c = some s
          · rw [if_pos h, cnt_t (by simp [h])]
          · rw [if_neg h, cnt_f (by simp [h])]
        rw [e2]
        exact ih
  have A2 := A1 _ rfl
  generalize hV : va_cpy (fun l => sh (stk s (eo l))) (upd (va_cpy (z_now (o_M O)) (z_now (o_M O)) (14 + 7 * s + 7) (14 + 7 * s) (35 - 7 * s)) 13 (nI n)) 0 56 8 = V at A2 ⊢
  clear A1 hV
  have e0 : lay (S, o_M' O (z_deeds' (z_past' (o_M O) G) kn)) = lay (S, o_M' O (z_now' (z_deeds' (z_past' (o_M O) G) kn) (va_cpy (z_now (o_M O)) (z_now (o_M O)) (14 + 7 * s + 7) (14 + 7 * s) 0))) := congrArg (fun f => lay (S, o_M' O (z_now' (z_deeds' (z_past' (o_M O) G) kn) f))) cpy_0.symm
  have key := dn (n := 35 - 7 * s) (P := fun c => AW g mX6_strikes (fun r h' => r = some (.int (nI (cnt (fun l => decide (eo l = some s)) 8))) ∧ h' = lay (S, o_M' O (z_now' (z_deeds' (z_past' (o_M O) G) kn) V))) 0 0 22 [some (.ref 94), some (.int (nI s)), some (.int (nI (14 + 7 * s + c))), none, none] [] (lay (S, o_M' O (z_now' (z_deeds' (z_past' (o_M O) G) kn) (va_cpy (z_now (o_M O)) (z_now (o_M O)) (14 + 7 * s + 7) (14 + 7 * s) c))))) ?_ (fun c hc ih => ?_) 0 (Nat.zero_le _)
  · rw [← e0] at key
    refine awl ?_ key
    rw [show nI (14 + 7 * s + 0) = 14 + 7 * nI s by simp only [nlit, pk_mul, nI_add]; rfl]
    rfl
  · rw [show 14 + 7 * s + (35 - 7 * s) = 49 by omega]
    refine mk_mid (S := S) (O := o_M' O (z_deeds' (z_past' (o_M O) G) kn)) ?_ A2
    rw [pk_cpy_out (by omega)]
    exact hn
  · refine mk_step (S := S) (O := o_M' O (z_deeds' (z_past' (o_M O) G) kn)) (by omega) ?_
    rw [show 14 + 7 * s + c + 7 = 14 + 7 * s + 7 + c by omega, cpy_up (by omega)]
    exact ih
theorem Rw_strk {r : Fn} {eo : Nat → Option Nat} {m n s : Nat} (hS : ScC S r m (n + 1)) (hw : WfR r eo m (n + 1)) (hs : s ≤ n) : Rw (s_ed' (s_ns' (s_fc' S (va_cpy (s_fc S) (s_fc S) (7 * s + 7) (7 * s) (7 * (n - s)))) (nI n)) (va_cpy (fun l => sh (stk s (eo l))) (s_ed S) 0 0 m)) (va_cpy (fun l => sh (stk s (eo l))) (upd (va_cpy r r (14 + 7 * s + 7) (14 + 7 * s) (35 - 7 * s)) 13 (nI n)) 0 56 8) := by
  have h8 := hw.2.1
  have h6 := hw.2.2.2.1
  have hst : ∀ o, okO (n + 1) o → okO n (stk s o) := by
    intro o ho t ht
    cases o with
    | none => cases ht
    | some u =>
      have := ho u rfl
      simp only [stk] at ht
      split at ht
      · cases ht
      · split at ht
        · cases ht; omega
        · cases ht; omega
  have hlo : ∀ i, i < 13 → va_cpy (fun l => sh (stk s (eo l))) (upd (va_cpy r r (14 + 7 * s + 7) (14 + 7 * s) (35 - 7 * s)) 13 (nI n)) 0 56 8 i = r i := fun i hi => by
    rw [pk_cpy_out (by omega), pk_un (by omega), pk_cpy_out (by omega)]
  have hmi : ∀ i, i < 7 * n → va_cpy (fun l => sh (stk s (eo l))) (upd (va_cpy r r (14 + 7 * s + 7) (14 + 7 * s) (35 - 7 * s)) 13 (nI n)) 0 56 8 (14 + i) = r (14 + (if i < 7 * s then i else i + 7)) := fun i hi => by
    rw [pk_cpy_out (by omega), pk_un (by omega)]
    by_cases h : i < 7 * s
    · rw [if_pos h, pk_cpy_out (by omega)]
    · rw [if_neg h, pk_cpy_in (by omega) (by omega)]
      exact congrArg _ (by omega)
  have hhi : ∀ l, l < 8 → va_cpy (fun l => sh (stk s (eo l))) (upd (va_cpy r r (14 + 7 * s + 7) (14 + 7 * s) (35 - 7 * s)) 13 (nI n)) 0 56 8 (56 + l) = sh (stk s (eo l)) := fun l hl => by
    rw [pk_cpy_in (by omega) (by omega)]
    show sh (stk s (eo (0 + (56 + l - 56)))) = _
    rw [show 0 + (56 + l - 56) = l by omega]
  have h13 : va_cpy (fun l => sh (stk s (eo l))) (upd (va_cpy r r (14 + 7 * s + 7) (14 + 7 * s) (35 - 7 * s)) 13 (nI n)) 0 56 8 13 = nI n := by
    rw [pk_cpy_out (by omega), pk_us]
  generalize va_cpy (fun l => sh (stk s (eo l))) (upd (va_cpy r r (14 + 7 * s + 7) (14 + 7 * s) (35 - 7 * s)) 13 (nI n)) 0 56 8 = N at *
  refine ⟨fun l => stk s (eo l), m, n, ⟨hS.1, rfl, fun i hi => ?_, fun i hi => ?_, fun i hi => ?_, fun i hi => ?_⟩, ⟨?_, h8, h13, by omega, fun i hi => ?_, fun t ht k hk => ?_, fun i hi => ⟨hhi i hi, hst _ (hw.2.2.2.2.2.2.1 i hi).2⟩, fun i hi => ?_⟩⟩
  · rw [hlo i (by omega)]; exact hS.2.2.1 i hi
  · rw [hlo _ (by omega)]; exact hS.2.2.2.1 i hi
  · show va_cpy (s_fc S) (s_fc S) (7 * s + 7) (7 * s) (7 * (n - s)) i = _
    rw [hmi i hi]
    by_cases h : i < 7 * s
    · rw [if_pos h, pk_cpy_out (by omega)]
      exact hS.2.2.2.2.1 i (by omega)
    · rw [if_neg h, pk_cpy_in (by omega) (by omega), show 7 * s + 7 + (i - 7 * s) = i + 7 by omega]
      exact hS.2.2.2.2.1 (i + 7) (by omega)
  · show va_cpy (fun l => sh (stk s (eo l))) (s_ed S) 0 0 m i = _
    rw [hhi i hi]
    by_cases h : i < m
    · rw [pk_cpy_in (by omega) (by omega)]
      show sh (stk s (eo (0 + (i - 0)))) = _
      rw [show 0 + (i - 0) = i by omega]
    · rw [pk_cpy_out (by omega), hS.2.2.2.2.2 i hi, (hw.2.2.2.2.2.2.1 i hi).1, hw.2.2.2.2.2.2.2 i (by omega)]
      rfl
  · rw [hlo 4 (by decide)]; exact hw.1
  · rw [hlo i (by omega)]; exact hw.2.2.2.2.1 i hi
  · show ∃ v : Nat, v ≤ 9 ∧ N (14 + (7 * t + k)) = nI v
    rw [hmi _ (by omega)]
    by_cases h : 7 * t + k < 7 * s
    · rw [if_pos h]; exact hw.2.2.2.2.2.1 t (by omega) k hk
    · rw [if_neg h]
      have := hw.2.2.2.2.2.1 (t + 1) (by omega) k hk
      rw [show 7 * t + k + 7 = 7 * (t + 1) + k by omega]
      exact this
  · show stk s (eo i) = none
    rw [hw.2.2.2.2.2.2.2 i hi]
    rfl
theorem pr_strikes (x : Int32) : Pr g mX5_strikes mX6_strikes [.int x] := by
  rintro ⟨S, O⟩ hI
  have hI0 := hI
  obtain ⟨hR, hP, i3, i4, i5⟩ := hI
  obtain ⟨PP, kn, nx, G, dC, dM, dI⟩ := deed (g := g) hR hP
  obtain ⟨eo, m, n, hS, hw⟩ := hR
  have h8 := hw.2.1
  have h6 := hw.2.2.2.1
  have C1 := ac_hasShot' (g := g) (S := S) (O := O) x hS.2.1
  by_cases hx : x < 0 ∨ nI n ≤ x
  · have M1 := am_isShot' (g := g) (S := S) (O := O) x hw.2.2.1 (by omega)
    rw [ln_f hx] at C1 M1
    refine ⟨-1, (S, O), (S, O), ?_, ?_, hI0⟩
    · exact acw gdX5_strikes 40 rfl (ac_to C1 ⟨fun h => absurd rfl h, fun _ => ⟨rfl, rfl⟩⟩)
    · exact acw gdX6_strikes 40 rfl (ac_to M1 ⟨fun h => absurd rfl h, fun _ => ⟨rfl, rfl⟩⟩)
  obtain ⟨s, hs, rfl⟩ : ∃ t : Nat, t < n ∧ x = nI t := by
    rcases ix x (n := n) (by omega) with h | h | h
    · exact absurd (Or.inl h) hx
    · exact absurd (Or.inr h) hx
    · exact h
  rw [ln_t hs (by omega)] at C1
  obtain ⟨n, rfl⟩ : ∃ j, n = j + 1 := ⟨n - 1, by omega⟩
  have hRn := Rw_strk (s := s) hS hw (by omega)
  have C2 := ac_dropShot (g := g) (S := S) (O := o_nx' (o_kn' (o_P' O PP) kn) nx) (s := s) hS.2.1 h6 (by omega)
  generalize va_cpy (s_fc S) (s_fc S) (7 * s + 7) (7 * s) (7 * (n - s)) = F at hRn C2
  have C3 := ac_loseShot (g := g) (S := s_ns' (s_fc' S F) (nI n)) (O := o_nx' (o_kn' (o_P' O PP) kn) nx) (s := s) (n := n + 1) (eo := eo) hS.1 h8 (by omega) h6 (fun l hl => ⟨(hS.2.2.2.2.2 l (by omega)).trans (hw.2.2.2.2.2.2.1 l (by omega)).1, (hw.2.2.2.2.2.2.1 l (by omega)).2⟩)
  have ec : cnt (fun l => decide (eo l = some s)) 8 = cnt (fun l => decide (eo l = some s)) m := by
    rw [show 8 = m + (8 - m) by omega]
    exact cnt_ext _ (fun l h1 _ => by rw [hw.2.2.2.2.2.2.2 l h1]; rfl)
  replace C3 : ACe g mX3_loseShotInEdit [.ref 1, .int (nI s)] (lay (s_ns' (s_fc' S F) (nI n), o_nx' (o_kn' (o_P' O PP) kn) nx)) (some (.int (nI (cnt (fun l => decide (eo l = some s)) m)))) (lay (s_ed' (s_ns' (s_fc' S F) (nI n)) (va_cpy (fun l => sh (stk s (eo l))) (s_ed S) 0 0 m), o_nx' (o_kn' (o_P' O PP) kn) nx)) := C3
  generalize va_cpy (fun l => sh (stk s (eo l))) (s_ed S) 0 0 m = E at hRn C3
  have M3 := am_strikes (g := g) (S := s_ed' (s_ns' (s_fc' S F) (nI n)) E) (O := o_nx' (o_kn' (o_P' O PP) kn) nx) (s := s) (eo := eo) h6 (by omega) hw.2.2.1 (fun l hl => hw.2.2.2.2.2.2.1 l hl) (dM _ _ rfl rfl rfl)
  rw [ec] at M3
  replace M3 : ACe g mX6_strikes [.ref 94, .int (nI s)] (lay (s_ed' (s_ns' (s_fc' S F) (nI n)) E, o_nx' (o_kn' (o_P' O PP) kn) nx)) (some (.int (nI (cnt (fun l => decide (eo l = some s)) m)))) (lay (s_ed' (s_ns' (s_fc' S F) (nI n)) E, o_M' (o_nx' (o_kn' (o_P' O PP) kn) nx) (z_now' (z_deeds' (z_past' (o_M O) G) kn) (va_cpy (fun l => sh (stk s (eo l))) (upd (va_cpy (z_now (o_M O)) (z_now (o_M O)) (14 + 7 * s + 7) (14 + 7 * s) (35 - 7 * s)) 13 (nI n)) 0 56 8)))) := M3
  generalize va_cpy (fun l => sh (stk s (eo l))) (upd (va_cpy (z_now (o_M O)) (z_now (o_M O)) (14 + 7 * s + 7) (14 + 7 * s) (35 - 7 * s)) 13 (nI n)) 0 56 8 = N at hRn M3
  refine ⟨_, _, _, ?_, M3, ⟨hRn, dI _ rfl rfl rfl rfl rfl, i3, i4, i5⟩⟩
  exact acw gdX5_strikes 40 rfl (ac_to C1 ⟨fun _ => ac_to dC (ac_to C2 (ac_to C3 ⟨rfl, rfl⟩)), fun h => absurd h n01⟩)
end SK

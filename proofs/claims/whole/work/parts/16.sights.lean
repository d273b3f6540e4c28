def lkS (pl fc : Fn) (s k : Nat) : Int32 := if k = 2 then sdA pl fc s else fc (7 * s + (2 + k))
def allB (p : Nat → Bool) : Nat → Bool
  | 0 => true
  | n + 1 => allB p n && p n
theorem allB_no {p : Nat → Bool} {i n : Nat} (hi : i < n) (h : p i = false) : allB p n = false := by
  induction n with
  | zero => omega
  | succ n ih =>
    unfold allB
    by_cases h2 : i = n
    · subst h2; simp [h]
    · simp [ih (by omega)]
def soA (pl fc : Fn) (kw : Nat → Nat) (nu : Fn) (q s : Nat) : Bool := allB (fun j => decide (lkS pl fc s (kw j) = nu j)) q
section SG
variable {g : Glob} {S : Scn} {O : Oth}
theorem ac_look {s n k : Nat} (hs : s < n) (hn : n ≤ 6) (hk : k ≤ 2) (hp : Okp (s_pl S)) (hf : Okf (s_fc S) n) : ACe g mX4_look [.ref 79, .ref 1, .int (nI s), .int (nI k)] (lay (S, O)) (some (.int (lkS (s_pl S) (s_fc S) s k))) (lay (S, O)) := by
  refine acw gdX4_look 40 rfl ?_
  refine ⟨fun h1 => ?_, fun h1 => ?_⟩
  · have h2 : ¬ k = 2 := fun z => h1 (by rw [z]; rfl)
    refine ⟨fun h3 => ?_, fun h3 => ?_⟩
    · have h4 : ¬ k = 0 := fun z => h3 (by rw [z]; rfl)
      obtain rfl : k = 1 := by omega
      exact ac_to (ac_fact (w := 3) (by omega) (by decide)) ⟨rfl, rfl⟩
    · have h4 : k = 0 := (neqI (by omega) (by decide)).mp h3
      subst h4
      exact ac_to (ac_fact (w := 2) (by omega) (by decide)) ⟨rfl, rfl⟩
  · have h2 : k = 2 := (neqI (by omega) (by decide)).mp h1
    subst h2
    exact ac_to (ac_side hs hn hp hf) ⟨rfl, rfl⟩
theorem ac_fits {s n q : Nat} {kw : Nat → Nat} (hs : s < n) (hn : n ≤ 6) (hp : Okp (s_pl S)) (hf : Okf (s_fc S) n) (hq : q_sn (o_G O) = nI q) (hq6 : q ≤ 6) (hk : ∀ j, j < q → q_wh (o_G O) j = nI (kw j) ∧ kw j ≤ 2) : ACe g mX4_fits [.ref 79, .ref 1, .int (nI s)] (lay (S, O)) (some (.int (bi (soA (s_pl S) (s_fc S) kw (q_nu (o_G O)) q s)))) (lay (S, O)) := by
  refine acw gdX4_fits 40 rfl ?_
  refine dn (n := q) (P := fun i => allB (fun j => decide (lkS (s_pl S) (s_fc S) s (kw j) = q_nu (o_G O) j)) i = true → AW g mX4_fits _ 0 0 2 [some (.ref 79), some (.ref 1), some (.int (nI s)), some (.int (nI i))] [] (lay (S, O))) ?_ (fun i hi ih => ?_) 0 (Nat.zero_le _) rfl
  · intro hA
    refine lpw gdX4_fits 40 ⟨fun _ => ?_, fun h => absurd (by rw [hq]; exact nle (by omega) (by omega)) h⟩
    exact ⟨rfl, congrArg (fun z => some (Value.int z)) (bi_t hA).symm, rfl⟩
  · intro hA
    refine lpw gdX4_fits 40 ⟨fun h => absurd h (by rw [hq]; exact nge (by omega) (by omega)), fun _ => ?_⟩
    obtain ⟨k1, k2⟩ := hk i hi
    refine ⟨_, _, rfl, vlit (by omega) (by decide), ?_⟩
    rw [vcl rfl (by omega), show q_wh (o_G (S, O).snd) i = nI (kw i) from k1]
    refine ac_to (ac_look hs hn k2 hp hf) ?_
    refine ⟨_, _, rfl, vlit (by omega) (by decide), ?_⟩
    rw [vcl rfl (by omega)]
    refine ⟨fun hc => awl ?_ (ih ?_), fun hc => ?_⟩
    · rw [← nI_1]
      rfl
    · have hc2 : lkS (s_pl S) (s_fc S) s (kw i) = q_nu (o_G O) i := hc
      simp [allB, hA, hc2]
    · refine ⟨rfl, congrArg (fun z => some (Value.int z)) (bi_f ?_).symm, rfl⟩
      have hc2 : ¬ lkS (s_pl S) (s_fc S) s (kw i) = q_nu (o_G O) i := hc
      exact allB_no hi (by simp [hc2])
theorem ac_fitting {n q : Nat} {kw : Nat → Nat} (hns : s_ns S = nI n) (hn : n ≤ 6) (hp : Okp (s_pl S)) (hf : Okf (s_fc S) n) (hq : q_sn (o_G O) = nI q) (hq6 : q ≤ 6) (hk : ∀ j, j < q → q_wh (o_G O) j = nI (kw j) ∧ kw j ≤ 2) : ACe g mX4_fitting [.ref 79, .ref 1] (lay (S, O)) (some (.int (nI (msk (soA (s_pl S) (s_fc S) kw (q_nu (o_G O)) q) n)))) (lay (S, O)) := by
  refine acw gdX4_fitting 60 rfl ?_
  refine dn (n := n) (P := fun i => AW g mX4_fitting _ 0 0 4 [some (.ref 79), some (.ref 1), some (.int (nI (msk (soA (s_pl S) (s_fc S) kw (q_nu (o_G O)) q) i))), some (.int (nI i))] [] (lay (S, O))) ?_ (fun i hi ih => ?_) 0 (Nat.zero_le _)
  · exact lpw gdX4_fitting 30 ⟨fun _ => ⟨rfl, rfl⟩, fun h => absurd (by rw [hns]; exact nle (by omega) (by omega)) h⟩
  · refine lpw gdX4_fitting 30 ⟨fun h => absurd h (by rw [hns]; exact nge (by omega) (by omega)), fun _ => ?_⟩
    refine ac_to (ac_fits hi hn hp hf hq hq6 hk) ⟨fun hc => awl ?_ ih, fun hc => awl ?_ ih⟩
    · rw [msk_no ((bi_e0 _).mp hc), ← nI_1]
      rfl
    · rw [← msk_or (by omega) (by simpa [bi_e0] using hc), ← nI_1]
      rfl
/-! what is asked of the class, that needs no more -/
theorem ac_cplayer (a b : Int32) (ha : ¬ a < 0) (hb : ¬ 1 < a) (hc : ¬ b < 0) (hd : ¬ 1 < b) : ∃ p k : Nat, p < 2 ∧ k < 2 ∧ a = nI p ∧ b = nI k ∧ ACe g mX5_player [.ref 0, .int a, .int b] (lay (S, O)) (some (.int (s_pl S (2 * p + k)))) (lay (S, O)) := by
  obtain ⟨p, hp, rfl⟩ := nI_of2 (M := 1) (n := 1) (by decide) ha (Int32.not_lt.mp hb)
  obtain ⟨k, hk, rfl⟩ := nI_of2 (M := 1) (n := 1) (by decide) hc (Int32.not_lt.mp hd)
  refine ⟨p, k, by omega, by omega, rfl, rfl, ?_⟩
  refine acw gdX5_player 40 rfl ?_
  have e : 2 * nI p + nI k = nI (2 * p + k) := by simp only [nlit, pk_mul, nI_add]
  refine ⟨fun h => absurd h ha, fun _ => ⟨fun h => absurd h hb, fun _ => ⟨fun h => absurd h hc, fun _ => ⟨fun _ => ?_, fun h => absurd (Int32.not_lt.mp hd) h⟩⟩⟩⟩
  refine ⟨_, _, rfl, vin e (by omega) (by decide), ?_⟩
  rw [vcl e (by omega)]
  exact ⟨rfl, rfl⟩
theorem ac_cplayer_bad (a b : Int32) (h : a < 0 ∨ 1 < a ∨ b < 0 ∨ 1 < b) : ACe g mX5_player [.ref 0, .int a, .int b] (lay (S, O)) (some (.int (-1))) (lay (S, O)) := by
  refine acw gdX5_player 40 rfl ?_
  refine ⟨fun _ => ⟨rfl, rfl⟩, fun h1 => ⟨fun _ => ⟨rfl, rfl⟩, fun h2 => ⟨fun _ => ⟨rfl, rfl⟩, fun h3 => ⟨fun h4 => ?_, fun _ => ⟨rfl, rfl⟩⟩⟩⟩⟩
  rcases h with h | h | h | h
  · exact absurd h h1
  · exact absurd h h2
  · exact absurd h h3
  · exact absurd h (Int32.not_lt.mpr h4)
theorem ac_csees_bad (a b : Int32) (h : a < 0 ∨ 2 < a ∨ b < -1 ∨ 5 < b) : ACe g mX5_sees [.ref 0, .int a, .int b] (lay (S, O)) (some (.int (-1))) (lay (S, O)) := by
  refine acw gdX5_sees 40 rfl ?_
  refine ⟨fun _ => ⟨rfl, rfl⟩, fun h1 => ⟨fun _ => ⟨rfl, rfl⟩, fun h2 => ⟨fun _ => ⟨rfl, rfl⟩, fun h3 => ⟨fun h4 => ?_, fun _ => ⟨rfl, rfl⟩⟩⟩⟩⟩
  rcases h with h | h | h | h
  · exact absurd h h1
  · exact absurd h h2
  · exact absurd h h3
  · exact absurd h (Int32.not_lt.mpr h4)
theorem ac_snote_full {a b : Int32} (hq : q_sn (o_G O) = nI 6) : ACe g mX4_note [.ref 79, .int a, .int b] (lay (S, O)) (some (.int 0)) (lay (S, O)) := by
  have e : q_sn (o_G (S, O).snd) = nI 6 := hq
  refine acw gdX4_note 40 rfl ?_
  refine ⟨fun h => ?_, fun _ => ⟨rfl, rfl, rfl⟩⟩
  rw [e] at h
  exact absurd h (by decide)
theorem ac_snote {a b : Int32} {q : Nat} (hq : q_sn (o_G O) = nI q) (h6 : q < 6) : ACe g mX4_note [.ref 79, .int a, .int b] (lay (S, O)) (some (.int 1)) (lay (S, o_G' O (upd (q_wh (o_G O)) q a, upd (q_nu (o_G O)) q b, nI (q + 1)))) := by
  have e : q_sn (o_G (S, O).snd) = nI q := hq
  refine acw gdX4_note 40 rfl ?_
  refine ⟨fun _ => ?_, fun h => ?_⟩
  · refine ⟨_, _, rfl, vin e (by omega) (by decide), ?_⟩
    refine ⟨_, _, rfl, vin e (by omega) (by decide), ?_⟩
    refine ⟨rfl, rfl, ?_⟩
    rw [vcl e (by omega), e, nI_1]
    rfl
  · rw [e] at h
    exact absurd ((nltI (by omega) (by omega)).mpr h6) h
end SG

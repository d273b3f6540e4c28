abbrev ush (x y : Int32) : Int32 := (x.toUInt32 >>> (y.toUInt32 &&& Int32.toUInt32 31)).toInt32
def bc1 (x : Int32) : Int32 := x - (ush x 1 &&& 1431655765)
def bc2 (a : Int32) : Int32 := (a &&& 858993459) + (ush a 2 &&& 858993459)
def bc3 (b : Int32) : Int32 := (b + ush b 4) &&& 252645135
def bc4 (c : Int32) : Int32 := c + ush c 8
def bc5 (d : Int32) : Int32 := d + ush d 16
def bcF (x : Int32) : Int32 := bc5 (bc4 (bc3 (bc2 (bc1 x)))) &&& 63
theorem bc_fin : ∀ u : Nat, u < 64 → bcF (nI u) = nI (pop6 u) := by decide +kernel
def nz4 (i n : Int32) : Int32 := n + ush i 1
def nz3 (i n : Int32) : Int32 := if i ≤ 4 then nz4 i n else nz4 (ush i 2) (n + 2)
def nz2 (i n : Int32) : Int32 := if i ≤ 16 then nz3 i n else nz3 (ush i 4) (n + 4)
def nz1 (i n : Int32) : Int32 := if i ≤ 256 then nz2 i n else nz2 (ush i 8) (n + 8)
def nz0 (i n : Int32) : Int32 := if i ≤ 65536 then nz1 i n else nz1 (ush i 16) (n + 16)
def nzF (x : Int32) : Int32 := if 0 < ((x ^^^ (-1)) &&& (x - 1)) then nz0 ((x ^^^ (-1)) &&& (x - 1)) 1 else ((x ^^^ (-1)) &&& (x - 1)) &&& 32
section SC2
variable {g : Glob} {S : Scn} {O : Oth}
theorem ac_bitCount (x : Int32) (h : AH) : ACe g mJ6_bitCount_0f7a4 [.int x] h (some (.int (bcF x))) h := by
  refine acw gdJ6_bitCount_0f7a4 60 rfl ?_
  exact ⟨rfl, rfl⟩
theorem ac_ntz (x : Int32) (h : AH) : ACe g mJ6_numberOfTrailingZeros_0f7a4 [.int x] h (some (.int (nzF x))) h := by
  refine acw gdJ6_numberOfTrailingZeros_0f7a4 90 rfl ?_
  refine ⟨fun h0 => ?_, fun h0 => ?_⟩
  · refine ⟨fun h1 => ?_, fun h1 => ?_⟩ <;> (refine ⟨fun h2 => ?_, fun h2 => ?_⟩) <;> (refine ⟨fun h3 => ?_, fun h3 => ?_⟩) <;> (refine ⟨fun h4 => ?_, fun h4 => ?_⟩) <;>
    · refine ⟨congrArg (fun z => some (Value.int z)) ?_, rfl⟩
      unfold nzF
      rw [if_pos h0]
      unfold nz0
      (first | rw [if_pos h1] | rw [if_neg h1])
      unfold nz1
      (first | rw [if_pos h2] | rw [if_neg h2])
      unfold nz2
      (first | rw [if_pos h3] | rw [if_neg h3])
      unfold nz3
      (first | rw [if_pos h4] | rw [if_neg h4])
      rfl
  · refine ⟨congrArg (fun z => some (Value.int z)) ?_, rfl⟩
    unfold nzF
    rw [if_neg h0]
/-- THE EDIT of a class's scene -/
def EdS (S : Scn) (eo : Nat → Option Nat) (m n : Nat) : Prop := s_nl S = nI m ∧ m ≤ 8 ∧ n ≤ 6 ∧ ∀ l, l < 8 → s_ed S l = sh (eo l) ∧ okO n (eo l)
theorem sh_none {o : Option Nat} {n : Nat} (h : okO n o) (hn : n ≤ 2000) : sh o = -9 ↔ o = none := by
  cases o with
  | none => simp [sh]
  | some s =>
    have := h s rfl
    simp only [sh]
    constructor
    · intro z; exact absurd z (nI_ne9 (by omega))
    · intro z; cases z
theorem sh_eq {a b : Option Nat} {n : Nat} (ha : okO n a) (hb : okO n b) (hn : n ≤ 2000) (h1 : a ≠ none) (h2 : b ≠ none) : sh a = sh b ↔ ctO a b = false := by
  cases a with
  | none => exact absurd rfl h1
  | some s =>
    cases b with
    | none => exact absurd rfl h2
    | some t =>
      have := ha s rfl
      have := hb t rfl
      simp only [sh, ctO]
      rw [neqI (by omega) (by omega)]
      simp
theorem ac_lws {eo : Nat → Option Nat} {m n : Nat} (hE : EdS S eo m n) : ACe g mX3_linesWithoutShot [.ref 1] (lay (S, O)) (some (.int (nI (cnt (fun l => decide (eo l = none)) m)))) (lay (S, O)) := by
  obtain ⟨hm, h8, h6, hE⟩ := hE
  refine acw gdX3_linesWithoutShot 60 rfl ?_
  refine dn (n := m) (P := fun i => AW g mX3_linesWithoutShot _ 0 0 4 [some (.ref 1), some (.int (nI (cnt (fun l => decide (eo l = none)) i))), some (.int (nI i))] [] (lay (S, O))) ?_ (fun i hi ih => ?_) 0 (Nat.zero_le _)
  · exact lpw gdX3_linesWithoutShot 30 ⟨fun _ => ⟨rfl, rfl⟩, fun h => absurd (by rw [hm]; exact nle (by omega) (by omega)) h⟩
  · refine lpw gdX3_linesWithoutShot 30 ⟨fun h => absurd h (by rw [hm]; exact nge (by omega) (by omega)), fun _ => ?_⟩
    refine ⟨_, _, rfl, vlit (by omega) (by decide), ?_⟩
    rw [vcl rfl (by omega)]
    have he := hE i (by omega)
    refine ⟨fun hc => awl ?_ ih, fun hc => awl ?_ ih⟩
    · rw [show s_ed (S, O).fst i = sh (eo i) from he.1, sh_none he.2 (by omega)] at hc
      rw [cnt_f (p := fun l => decide (eo l = none)) (by simp [hc]), ← nI_1]
      rfl
    · rw [show s_ed (S, O).fst i = sh (eo i) from he.1, sh_none he.2 (by omega)] at hc
      rw [cnt_t (p := fun l => decide (eo l = none)) (by simp [hc]), ← nI_1, ← nI_1]
      rfl
theorem ac_isCutAhead {eo : Nat → Option Nat} {m n l : Nat} (hE : EdS S eo m n) (hl : l + 1 < 8) : ACe g mX3_isCutAhead [.ref 1, .int (nI (l + 1))] (lay (S, O)) (some (.int (bi (ctO (eo l) (eo (l + 1)))))) (lay (S, O)) := by
  obtain ⟨hm, h8, h6, hE⟩ := hE
  have e1 : nI (l + 1) - 1 = nI l := nI_pred l
  refine acw gdX3_isCutAhead 60 rfl ?_
  refine ⟨_, _, rfl, vin e1 (by omega) (by decide), ?_⟩
  rw [vcl e1 (by omega)]
  refine ⟨_, _, rfl, vlit (by omega) (by decide), ?_⟩
  rw [vcl rfl (by omega)]
  have ha := hE l (by omega)
  have hb := hE (l + 1) (by omega)
  rw [show s_ed (S, O).fst l = sh (eo l) from ha.1, show s_ed (S, O).fst (l + 1) = sh (eo (l + 1)) from hb.1]
  refine ⟨fun h1 => ?_, fun h1 => ⟨fun h2 => ?_, fun h2 => ⟨fun h3 => ?_, fun h3 => ?_⟩⟩⟩
  · refine ⟨rfl, congrArg (fun z => some (Value.int z)) (bi_f ?_).symm, rfl⟩
    rw [sh_none ha.2 (by omega)] at h1
    rw [h1]
    rfl
  · refine ⟨rfl, congrArg (fun z => some (Value.int z)) (bi_f ?_).symm, rfl⟩
    rw [sh_none hb.2 (by omega)] at h2
    rw [h2]
    cases eo l <;> rfl
  · refine ⟨rfl, congrArg (fun z => some (Value.int z)) (bi_f ?_).symm, rfl⟩
    exact (sh_eq ha.2 hb.2 (by omega) (fun z => h1 ((sh_none ha.2 (by omega)).mpr z)) (fun z => h2 ((sh_none hb.2 (by omega)).mpr z))).mp h3
  · refine ⟨rfl, congrArg (fun z => some (Value.int z)) (bi_t ?_).symm, rfl⟩
    have h4 := fun z => h3 ((sh_eq ha.2 hb.2 (by omega) (fun z => h1 ((sh_none ha.2 (by omega)).mpr z)) (fun z => h2 ((sh_none hb.2 (by omega)).mpr z))).mpr z)
    simpa using h4
theorem ac_cuts {eo : Nat → Option Nat} {m n : Nat} (hE : EdS S eo m n) : ACe g mX3_cuts [.ref 1] (lay (S, O)) (some (.int (nI (cnt (fun l => ctO (eo l) (eo (l + 1))) (m - 1))))) (lay (S, O)) := by
  have hm := hE.1
  have h8 := hE.2.1
  refine acw gdX3_cuts 60 rfl ?_
  refine dn (n := m - 1) (P := fun i => AW g mX3_cuts _ 0 0 4 [some (.ref 1), some (.int (nI (cnt (fun l => ctO (eo l) (eo (l + 1))) i))), some (.int (nI (i + 1)))] [] (lay (S, O))) ?_ (fun i hi ih => ?_) 0 (Nat.zero_le _)
  · exact lpw gdX3_cuts 30 ⟨fun _ => ⟨rfl, rfl⟩, fun h => absurd (by rw [hm]; exact nle (by omega) (by omega)) h⟩
  · refine lpw gdX3_cuts 30 ⟨fun h => absurd h (by rw [hm]; exact nge (by omega) (by omega)), fun _ => ?_⟩
    refine ac_to (ac_isCutAhead hE (by omega)) ⟨fun hc => awl ?_ ih, fun hc => awl ?_ ih⟩
    · rw [cnt_f (p := fun l => ctO (eo l) (eo (l + 1))) ((bi_e0 _).mp hc), ← nI_1 (i + 1)]
      rfl
    · rw [cnt_t (p := fun l => ctO (eo l) (eo (l + 1))) (by simpa [bi_e0] using hc), ← nI_1 (i + 1), ← nI_1 (cnt _ i)]
      rfl
theorem ac_doubleReactions {eo : Nat → Option Nat} {m n : Nat} (hE : EdS S eo m n) : ACe g mX3_doubleReactions [.ref 1] (lay (S, O)) (some (.int (nI (cnt (fun l => reO (s_fc S) (s_sp S) l (eo l) && reO (s_fc S) (s_sp S) (l + 1) (eo (l + 1))) (m - 1))))) (lay (S, O)) := by
  obtain ⟨hm, h8, h6, hE⟩ := hE
  refine acw gdX3_doubleReactions 60 rfl ?_
  refine dn (n := m - 1) (P := fun i => AW g mX3_doubleReactions _ 0 0 4 [some (.ref 1), some (.int (nI (cnt (fun l => reO (s_fc S) (s_sp S) l (eo l) && reO (s_fc S) (s_sp S) (l + 1) (eo (l + 1))) i))), some (.int (nI (i + 1)))] [] (lay (S, O))) ?_ (fun i hi ih => ?_) 0 (Nat.zero_le _)
  · exact lpw gdX3_doubleReactions 40 ⟨fun _ => ⟨rfl, rfl⟩, fun h => absurd (by rw [hm]; exact nle (by omega) (by omega)) h⟩
  · refine lpw gdX3_doubleReactions 40 ⟨fun h => absurd h (by rw [hm]; exact nge (by omega) (by omega)), fun _ => ?_⟩
    have e1 : nI (i + 1) - 1 = nI i := nI_pred i
    have ha := hE i (by omega)
    have hb := hE (i + 1) (by omega)
    refine ⟨_, _, rfl, vin e1 (by omega) (by decide), ?_⟩
    rw [vcl e1 (by omega), show s_ed (S, O).fst i = sh (eo i) from ha.1, e1]
    refine ac_to (ac_isReaction (by omega) (fun s hs => Nat.lt_of_lt_of_le (ha.2 s hs) h6)) ⟨fun hc => awl ?_ ih, fun hc => ?_⟩
    · rw [bi_e0] at hc
      rw [cnt_f (p := fun l => reO (s_fc S) (s_sp S) l (eo l) && reO (s_fc S) (s_sp S) (l + 1) (eo (l + 1))) (by simp [hc]), ← nI_1 (i + 1)]
      rfl
    refine ⟨_, _, rfl, vlit (by omega) (by decide), ?_⟩
    rw [vcl rfl (by omega), show s_ed (S, O).fst (i + 1) = sh (eo (i + 1)) from hb.1]
    rw [bi_e0, Bool.not_eq_false] at hc
    refine ac_to (ac_isReaction (by omega) (fun s hs => Nat.lt_of_lt_of_le (hb.2 s hs) h6)) ⟨fun hd => awl ?_ ih, fun hd => awl ?_ ih⟩
    · rw [bi_e0] at hd
      rw [cnt_f (p := fun l => reO (s_fc S) (s_sp S) l (eo l) && reO (s_fc S) (s_sp S) (l + 1) (eo (l + 1))) (by simp [hd]), ← nI_1 (i + 1)]
      rfl
    · rw [bi_e0, Bool.not_eq_false] at hd
      rw [cnt_t (p := fun l => reO (s_fc S) (s_sp S) l (eo l) && reO (s_fc S) (s_sp S) (l + 1) (eo (l + 1))) (by simp [hc, hd]), ← nI_1 (i + 1), ← nI_1 (cnt _ i)]
      rfl
theorem ac_wrongCuts {eo : Nat → Option Nat} {m n : Nat} (hE : EdS S eo m n) (hp : Okp (s_pl S)) (hf : Okf (s_fc S) n) : ACe g mX3_wrongCuts [.ref 1] (lay (S, O)) (some (.int (nI (cnt (fun l => ctO (eo l) (eo (l + 1)) && !cnO (s_pl S) (s_fc S) (eo l) (eo (l + 1))) (m - 1))))) (lay (S, O)) := by
  have hE0 := hE
  obtain ⟨hm, h8, h6, hE⟩ := hE
  refine acw gdX3_wrongCuts 60 rfl ?_
  refine dn (n := m - 1) (P := fun i => AW g mX3_wrongCuts _ 0 0 4 [some (.ref 1), some (.int (nI (cnt (fun l => ctO (eo l) (eo (l + 1)) && !cnO (s_pl S) (s_fc S) (eo l) (eo (l + 1))) i))), some (.int (nI (i + 1)))] [] (lay (S, O))) ?_ (fun i hi ih => ?_) 0 (Nat.zero_le _)
  · exact lpw gdX3_wrongCuts 40 ⟨fun _ => ⟨rfl, rfl⟩, fun h => absurd (by rw [hm]; exact nle (by omega) (by omega)) h⟩
  · refine lpw gdX3_wrongCuts 40 ⟨fun h => absurd h (by rw [hm]; exact nge (by omega) (by omega)), fun _ => ?_⟩
    have e1 : nI (i + 1) - 1 = nI i := nI_pred i
    have ha := hE i (by omega)
    have hb := hE (i + 1) (by omega)
    refine ac_to (ac_isCutAhead hE0 (by omega)) ⟨fun hc => awl ?_ ih, fun hc => ?_⟩
    · rw [bi_e0] at hc
      rw [cnt_f (p := fun l => ctO (eo l) (eo (l + 1)) && !cnO (s_pl S) (s_fc S) (eo l) (eo (l + 1))) (by simp [hc]), ← nI_1 (i + 1)]
      rfl
    rw [bi_e0, Bool.not_eq_false] at hc
    refine ⟨_, _, rfl, vin e1 (by omega) (by decide), ?_⟩
    rw [vcl e1 (by omega), show s_ed (S, O).fst i = sh (eo i) from ha.1]
    refine ⟨_, _, rfl, vlit (by omega) (by decide), ?_⟩
    rw [vcl rfl (by omega), show s_ed (S, O).fst (i + 1) = sh (eo (i + 1)) from hb.1]
    obtain ⟨s, hs⟩ : ∃ s, eo i = some s := by
      cases h : eo i with
      | none =>
        rw [h] at hc
        cases h2 : eo (i + 1) <;> (rw [h2] at hc; cases hc)
      | some s => exact ⟨s, rfl⟩
    obtain ⟨t, ht⟩ : ∃ t, eo (i + 1) = some t := by
      cases h : eo (i + 1) with
      | none =>
        rw [h] at hc
        cases h2 : eo i <;> (rw [h2] at hc; cases hc)
      | some s => exact ⟨s, rfl⟩
    rw [hs, ht]
    refine ac_to (ac_canBeCut (ha.2 s hs) (hb.2 t ht) h6 hp hf) ⟨fun hd => awl ?_ ih, fun hd => awl ?_ ih⟩
    · rw [bi_e0, Bool.not_eq_false] at hd
      rw [cnt_f (p := fun l => ctO (eo l) (eo (l + 1)) && !cnO (s_pl S) (s_fc S) (eo l) (eo (l + 1))) (by simp [hs, ht, cnO, hd]), ← nI_1 (i + 1)]
      rfl
    · rw [bi_e0] at hd
      rw [cnt_t (p := fun l => ctO (eo l) (eo (l + 1)) && !cnO (s_pl S) (s_fc S) (eo l) (eo (l + 1))) (by rw [hs, ht] at hc ⊢; simp [cnO, hd, hc]), ← nI_1 (i + 1), ← nI_1 (cnt _ i)]
      rfl
theorem ac_shotsUsed {eo : Nat → Option Nat} {m n : Nat} (hE : EdS S eo m n) : ACe g mX3_shotsUsed [.ref 1] (lay (S, O)) (some (.int (nI (pop6 (usd eo m))))) (lay (S, O)) := by
  obtain ⟨hm, h8, h6, hE⟩ := hE
  have hu : ∀ i, i ≤ m → usd eo i < 64 := usd_lt (m := m) (fun l hl s hs => Nat.lt_of_lt_of_le ((hE l (by omega)).2 s hs) h6)
  refine acw gdX3_shotsUsed 60 rfl ?_
  refine dn (n := m) (P := fun i => AW g mX3_shotsUsed _ 0 0 4 [some (.ref 1), some (.int (nI (usd eo i))), some (.int (nI i))] [] (lay (S, O))) ?_ (fun i hi ih => ?_) 0 (Nat.zero_le _)
  · refine lpw gdX3_shotsUsed 40 ⟨fun _ => ?_, fun h => absurd (by rw [hm]; exact nle (by omega) (by omega)) h⟩
    refine ac_to (ac_bitCount _ _) ⟨?_, rfl⟩
    rw [bc_fin _ (hu m (Nat.le_refl m))]
  · refine lpw gdX3_shotsUsed 40 ⟨fun h => absurd h (by rw [hm]; exact nge (by omega) (by omega)), fun _ => ?_⟩
    have ha := hE i (by omega)
    refine ⟨_, _, rfl, vlit (by omega) (by decide), ?_⟩
    rw [vcl rfl (by omega), show s_ed (S, O).fst i = sh (eo i) from ha.1]
    cases hs : eo i with
    | none =>
      refine ⟨fun _ => awl ?_ ih, fun h => absurd rfl h⟩
      rw [show usd eo (i + 1) = usd eo i by simp [usd, hs], ← nI_1]
      rfl
    | some s =>
      have h1 := ha.2 s hs
      refine ⟨fun h => absurd h (nI_ne9 (by omega)), fun _ => ?_⟩
      refine ⟨_, _, rfl, vlit (by omega) (by decide), ?_⟩
      rw [vcl rfl (by omega), show s_ed (S, O).fst i = sh (eo i) from ha.1, hs]
      refine awl ?_ ih
      rw [show usd eo (i + 1) = usd eo i ||| 2 ^ s by simp [usd, hs], ← (or_lt _ (hu i (by omega)) s (by omega)).2, ← nI_1]
      rfl
end SC2

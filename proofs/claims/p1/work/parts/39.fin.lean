/-! the first call, for every script of at most 6 ints -/
theorem zprod3 {α β γ : Type} (p : α × β × γ) {a : α} {b : β} {c : γ} (h1 : p.1 = a) (h2 : p.2.1 = b) (h3 : p.2.2 = c) : p = (a, b, c) := by
  obtain ⟨x, y, z⟩ := p
  cases h1; cases h2; cases h3; rfl
theorem zyMR0 (ρ : Nat → Int32) : zyMR ρ zyA0 zM3 := by
  refine ⟨zM3_S, fun i k => ?_, fun i k x h => (by have h' : (none : Option Int64) = some x := h; cases h'), ?_⟩
  · show zyR ρ (zyY0 i k) (.int (zM3.2.1 i k))
    unfold zyY0
    cases hc : zycov i k with
    | false => rw [cond_false]; exact ⟨_, rfl⟩
    | true =>
      rw [cond_true]
      show Value.int (zM3.2.1 i k) = .int (zmv i k)
      have all : ∀ e ∈ zigs, ∀ l, l < e.2.2 → zM3.2.1 e.1 (e.2.1 + l) = zmv e.1 (e.2.1 + l) := by
        intro e he l hl
        have key : ∀ g : List (Nat × Nat × Nat), g.all (fun e => (List.range e.2.2).all (fun k => decide (zM3.2.1 e.1 (e.2.1 + k) = zmv e.1 (e.2.1 + k)))) = true → e ∈ g → zM3.2.1 e.1 (e.2.1 + l) = zmv e.1 (e.2.1 + l) := by
          intro g hg hm
          exact of_decide_eq_true (List.all_eq_true.mp (List.all_eq_true.mp hg e hm) l (List.mem_range.mpr hl))
        unfold zigs at he
        rw [List.mem_append, List.mem_append, List.mem_append, List.mem_append, List.mem_append, List.mem_append] at he
        rcases he with (((((he | he) | he) | he) | he) | he) | he
        · exact key _ zi_0 he
        · exact key _ zi_1 he
        · exact key _ zi_2 he
        · exact key _ zi_3 he
        · exact key _ zi_4 he
        · exact key _ zi_5 he
        · exact key _ zi_6 he
      unfold zycov at hc
      obtain ⟨e, he, hb⟩ := List.any_eq_true.mp hc
      rw [Bool.and_eq_true, Bool.and_eq_true] at hb
      have h1 : e.1 = i := Nat.eq_of_beq_eq_true hb.1.1
      have h2 : e.2.1 ≤ k := Nat.le_of_ble_eq_true hb.1.2
      have h3 : k < e.2.1 + e.2.2 := Nat.le_of_ble_eq_true hb.2
      have h4 := all e he (k - e.2.1) (by omega)
      rw [Nat.add_sub_cancel' h2, h1] at h4
      rw [h4]
  · obtain ⟨a, b, c⟩ := zM3_n
    exact zprod3 _ a b c
def zyro (xs : Nat → Int32) : Nat → Int32 := fun k => if k = 6 then xs 0 &&& 63 else xs k
theorem zyT0 (L : Nat) (xs : Nat → Int32) : zyT (zyro xs) (zyt L) (zsig L xs) := by
  intro n
  cases n with
  | zero =>
    refine ⟨rfl, fun k => ?_⟩
    show zyR _ (bif Nat.blt k 6 then .inr (some k) else .inr none) (.int (xs k))
    cases hb : Nat.blt k 6 with
    | false => rw [cond_false]; exact ⟨_, rfl⟩
    | true =>
      rw [cond_true]
      have h : k < 6 := Nat.le_of_ble_eq_true hb
      show Value.int (xs k) = .int (zyro xs k)
      unfold zyro
      rw [if_neg (by omega)]
  | succ n => exact ⟨rfl, fun k => rfl⟩
theorem zyLR0 (ρ : Nat → Int32) : zyLR ρ zyl0 zlw0 := by
  refine ⟨rfl, fun k v h => ?_⟩
  match k, h with
  | 0, h => cases h; exact ⟨_, rfl, rfl⟩
  | 1, h => cases h; exact ⟨_, rfl, rfl⟩
  | 2, h => cases h; exact ⟨_, rfl, rfl⟩
  | 3, h => cases h; exact ⟨_, rfl, rfl⟩
  | 4, h => cases h; exact ⟨_, rfl, rfl⟩
  | 5, h => exact absurd h (by intro q; cases q)
  | 6, h => exact absurd h (by intro q; cases q)
  | n + 7, h => exact absurd h (by intro q; cases q)
def zP1 (σ : Nat → Nat × (Nat → Int32)) (pc : Nat) (w : List Value) : Prop := ∃ M', zEv σ 20 2024 pc zlw0 w zM3 (.inl (some (.int 1))) M' ∧ M'.2.2.2.2.1 ≤ 200 ∧ M'.2.2.2.2.2 ≤ 8000
theorem zyfin {L n pc : Nat} {xs : Nat → Int32} {E : zyE} {st : List zyV} {w : List Value} (h : zyok (zyrun (zyt L) n E 20 2024 pc zyl0 st zyA0) = true) (hK : zyK (zyro xs) E) (hs : zyRs (zyro xs) st w) : zP1 (zsig L xs) pc w := by
  cases hr : zyrun (zyt L) n E 20 2024 pc zyl0 st zyA0 with
  | none => rw [hr] at h; cases h
  | some l =>
    rw [hr] at h
    obtain ⟨q, hq, o, M', r1, r2, r3, r4⟩ := zyrun_ok (zyT0 L xs) n E 20 2024 pc zyl0 st zyA0 l zlw0 w zM3 hr hK (zyLR0 _) hs (zyMR0 _)
    have h1 : zyok1 q = true := List.all_eq_true.mp h q hq
    unfold zyok1 at h1
    rw [Bool.and_eq_true, Bool.and_eq_true] at h1
    obtain ⟨⟨h1, h2⟩, h3⟩ := h1
    obtain ⟨E1, o1, A1⟩ := q
    dsimp only at h1 h2 h3 r1 r2 r3
    have e4 := r3.2.2.2
    split at h1
    · rename_i x
      have hx : x = 1 := of_decide_eq_true h1
      subst hx
      cases o with
      | inr e => exact absurd r2 (fun q => q)
      | inl y =>
        cases y with
        | none => exact absurd r2 (fun q => q)
        | some y =>
          have hy : y = .int 1 := r2
          subst hy
          refine ⟨M', r4, ?_, ?_⟩
          · rw [e4]; exact Nat.le_of_ble_eq_true h2
          · rw [e4]; exact Nat.le_of_ble_eq_true h3
    · cases h1
theorem zand63 (x : Int32) : ∃ k : Nat, k ≤ 63 ∧ (x &&& 63).toInt = Int.ofNat k := by
  refine ⟨(x &&& 63).toBitVec.toNat, ?_, ?_⟩
  · rw [Int32.toBitVec_and, BitVec.toNat_and]
    exact Nat.and_le_right
  · have h : (x &&& 63).toBitVec.toNat ≤ 63 := by
      rw [Int32.toBitVec_and, BitVec.toNat_and]
      exact Nat.and_le_right
    exact BitVec.toInt_eq_toNat_of_lt (by omega)
theorem zyqs : ∀ k : Nat, k < 34 → zyq k k = true := by
  intro k hk
  match k, hk with
  | 0, _ => exact zyq_0
  | 1, _ => exact zyq_1
  | 2, _ => exact zyq_2
  | 3, _ => exact zyq_3
  | 4, _ => exact zyq_4
  | 5, _ => exact zyq_5
  | 6, _ => exact zyq_6
  | 7, _ => exact zyq_7
  | 8, _ => exact zyq_8
  | 9, _ => exact zyq_9
  | 10, _ => exact zyq_10
  | 11, _ => exact zyq_11
  | 12, _ => exact zyq_12
  | 13, _ => exact zyq_13
  | 14, _ => exact zyq_14
  | 15, _ => exact zyq_15
  | 16, _ => exact zyq_16
  | 17, _ => exact zyq_17
  | 18, _ => exact zyq_18
  | 19, _ => exact zyq_19
  | 20, _ => exact zyq_20
  | 21, _ => exact zyq_21
  | 22, _ => exact zyq_22
  | 23, _ => exact zyq_23
  | 24, _ => exact zyq_24
  | 25, _ => exact zyq_25
  | 26, _ => exact zyq_26
  | 27, _ => exact zyq_27
  | 28, _ => exact zyq_28
  | 29, _ => exact zyq_29
  | 30, _ => exact zyq_30
  | 31, _ => exact zyq_31
  | 32, _ => exact zyq_32
  | 33, _ => exact zyq_33
  | n + 34, h => exact absurd h (by omega)
theorem zyq0s : ∀ L : Nat, L < 6 → zyq0 L = true := by
  intro L hL
  match L, hL with
  | 0, _ => exact zyq0_0
  | 1, _ => exact zyq0_1
  | 2, _ => exact zyq0_2
  | 3, _ => exact zyq0_3
  | 4, _ => exact zyq0_4
  | 5, _ => exact zyq0_5
  | n + 6, h => exact absurd h (by omega)
theorem zp1_40 (xs : Nat → Int32) : zP1 (zsig 6 xs) 40 [.int (xs 0 &&& 63)] := by
  obtain ⟨k, hk, he⟩ := zand63 (xs 0)
  have h6 : (zyro xs 6).toInt = Int.ofNat k := by
    unfold zyro
    rw [if_pos rfl]; exact he
  have hs : zyRs (zyro xs) [.inr (some 6)] [.int (xs 0 &&& 63)] := by
    refine ⟨?_, trivial⟩
    show Value.int (xs 0 &&& 63) = .int (zyro xs 6)
    unfold zyro
    rw [if_pos rfl]
  by_cases h34 : k < 34
  · refine zyfin (zyqs k h34) (fun q hq => ?_) hs
    cases List.mem_singleton.mp hq
    show Int.ofNat k ≤ (zyro xs 6).toInt ∧ (zyro xs 6).toInt ≤ Int.ofNat k
    rw [h6]
    exact ⟨Int.le_refl _, Int.le_refl _⟩
  · refine zyfin zyq_d (fun q hq => ?_) hs
    cases List.mem_singleton.mp hq
    show Int.ofNat 34 ≤ (zyro xs 6).toInt ∧ (zyro xs 6).toInt ≤ Int.ofNat 63
    rw [h6]
    exact ⟨Int.ofNat_le.mpr (Nat.le_of_not_lt h34), Int.ofNat_le.mpr hk⟩
theorem zp1_23 (xs : Nat → Int32) : zP1 (zsig 6 xs) 23 [] := by
  obtain ⟨M', h, h1, h2⟩ := zp1_40 xs
  refine ⟨M', ?_, h1, h2⟩
  unfold zlw0 at h ⊢
  refine zeP (i := .iload 4) (len := 2) rfl rfl ?_
  refine zeP (i := .aload_n 0) (len := 1) rfl rfl ?_
  refine zeS (i := .arraylength) (len := 1) rfl rfl rfl ?_
  refine zeP (i := .bipush 6) (len := 2) rfl rfl ?_
  refine zeP (i := .isub) (len := 1) rfl rfl ?_
  refine zeP (i := .if_icmp .gt 1916) (len := 3) (pc' := 33) (lv' := [some (.ref 1000), some (.ref 0), some (.ref 137), some (.ref 146), some (.int 0), none, none]) (st' := []) rfl ?_ ?_
  · have hb : zc2 .gt 0 (Int32.ofNat 6 - (Int8.ofInt 6).toInt32) = false := by decide +kernel
    show zbr (zc2 .gt 0 (Int32.ofNat 6 - (Int8.ofInt 6).toInt32)) 30 1916 [some (.ref 1000), some (.ref 0), some (.ref 137), some (.ref 146), some (.int 0), none, none] [] = _
    unfold zbr
    rw [hb]
    rfl
  refine zeP (i := .aload_n 0) (len := 1) rfl rfl ?_
  refine zeP (i := .iload 4) (len := 2) rfl rfl ?_
  refine zeS (i := .iaload) (len := 1) (pc' := 37) (st' := [.int (xs 0)]) (M1 := zM3) rfl rfl ?_ ?_
  · have hb : zoutB 0 6 = false := by decide +kernel
    have h0 : ziald (zsig 6 xs) 36 [.int 0, .ref 1000] zM3 = (bif !zoutB 0 6 then some (37, [.int (xs 0)], zM3) else none) := rfl
    show ziald (zsig 6 xs) 36 [.int 0, .ref 1000] zM3 = some (37, [.int (xs 0)], zM3)
    rw [h0, hb]
    rfl
  refine zeP (i := .bipush 63) (len := 2) rfl rfl ?_
  refine zeP (i := .iand) (len := 1) (pc' := 40) (lv' := [some (.ref 1000), some (.ref 0), some (.ref 137), some (.ref 146), some (.int 0), none, none]) (st' := [.int (xs 0 &&& 63)]) rfl ?_ h
  rfl
theorem whole_start {p : Program} {e : Env} {s : State} {m : MethodId} {below : List Frame} {meth : Method} {c : Code} (l : Launch) (hflags : l.flags = flags0) {b L : Nat} {xs : Nat → Int32} (hL : L ≤ 6) (C0 : lw_At p s m meth c b L xs) : W p l e room_1 s m #[Value.ref b] below meth c s.heap [] 0 0 (lw_Z below #[Value.ref b] s) (entryFrame m ([Value.ref b] : List Value).toArray 7) := by
  have key : zP1 (zsig L xs) 23 [] := by
    by_cases h6 : L < 6
    · exact zyfin (zyq0s L h6) (fun q hq => by cases hq) trivial
    · have e6 : L = 6 := by omega
      subst e6
      exact zp1_23 xs
  obtain ⟨M', h, h1, h2⟩ := key
  exact zclose l hflags C0 (zlaw_pre h) (Nat.le_trans h1 (by decide)) (Nat.le_trans h2 (by decide))

theorem zar {S c c' b l l1 n n1 : Nat} (h1 : S + c ≤ b + l) (h2 : c' + n = c + n1) (h3 : n1 + l = n + l1) : S + c' ≤ b + l1 := by omega
theorem zar2 {c c' m n n1 r : Nat} (h : c + m ≤ r + n) (h2 : c' + n = c + n1) : c' + m ≤ r + n1 := by omega
theorem zar3 {c m n n1 r : Nat} (h : c + m ≤ r + n) (h2 : n1 ≤ m) : c + n1 ≤ r + n := by omega
theorem zar4 {c m n r : Nat} (h : c + m ≤ r + n) (h2 : n ≤ m) : c ≤ r := by omega
theorem zar5 {c m n n1 r : Nat} (h : c + m ≤ r + n) (h0 : n ≤ n1) (h2 : n1 ≤ m) : c + (n1 - n) ≤ r := by omega
theorem zar6 {c n n1 : Nat} (h0 : n ≤ n1) : c + (n1 - n) + n = c + n1 := by omega
theorem zar7 {d r : Nat} (h : d + 1 + 8 ≤ r) : d + 9 ≤ r := by omega
theorem zar8 {d r : Nat} (h : 40 * (d + 1) + 200 ≤ r) : 40 * d + 240 ≤ r := by omega
theorem zar9 {d r : Nat} (h : d + 8 ≤ r) : 6 ≤ r ∧ 8 ≤ r := by omega
theorem zar10 {d r : Nat} (h : 40 * d + 200 ≤ r) : 150 ≤ r ∧ 200 ≤ r := by omega
theorem zar11 {c n k r : Nat} (h : c + (n + k) ≤ r + n) : c + k ≤ r := by omega
theorem ztab0 {q : zMt} {j : Nat} {c : Code} (hq : zent j = some q) (hn : znoH j = true) (htab : c.exceptionTable.toList = tableOf q.2.2.2.2.1) : ∀ x ∈ c.exceptionTable.toList, False := by
  unfold znoH at hn
  rw [hq] at hn
  rw [htab, List.isEmpty_iff.mp hn]
  intro x hx
  cases hx
set_option maxHeartbeats 4000000 in
theorem zsound {l : Launch} {G : zG} {σ : Nat → Nat × (Nat → Int32)} (hl : l.stackTraces = false) : ∀ n, zPn l G σ n := by
  intro n
  induction n with
  | zero => intro d j pc lv st M o M' h; cases h
  | succ n ih =>
    intro d j pc lv st M o M' h p e R s m args below meth c H locs cells slots ls Q q hq B hNC hml hr hlocks hini hRf hRl hlv hnl hR hS hX hRc hRs hQ fin
    have hls : ls.size = c.maxLocals := hlv.1.trans hml.symm
    have hle := zrun_le _ _ _ _ _ _ _ _ _ h
    rw [zrun] at h
    split at h
    · cases h
    · rename_i i len hfe
      obtain ⟨hd, hlen⟩ := zfe_ok hfe hq
      split at h
      · rename_i pc' lv' st' hp
        exact zP_ok B.1 B.2.1 B.2.2.1 B.2.2.2.1 hd hlen hlv hnl hp (fun ls' h1 h2 => ih d j pc' lv' st' M o M' h p e R s m args below meth c H locs cells slots ls' Q q hq B hNC hml hr hlocks hini hRf hRl h1 h2 hR hS hX hRc hRs hQ fin)
      · split at h
        · rename_i pc' st' M1 hs1
          have hle1 := zS_le hs1
          have hle2 := zrun_le _ _ _ _ _ _ _ _ _ h
          refine zS_ok B hini hls (zar9 hRf).1 (zar10 hRl).1 hd hlen hR hS hX hs1 (zar3 hRc hle2.1) (zar3 hRs hle2.2.1) (fun H' locs' cells' slots' e1 e2 hR' hS' => ?_)
          exact ih d j pc' lv st' M1 o M' h p e R s m args below meth c H' locs' cells' slots' ls Q q hq B hNC hml hr hlocks hini hRf hRl hlv hnl hR' hS' (fun hx => zar (hX (hle1.2.2 hx).1) e1 (hle1.2.2 hx).2) (zar2 hRc e1) (zar2 hRs e2) hQ fin
        · split at h
          · rename_i v hret
            cases h
            exact fin v rfl pc i len st H locs cells slots ls hfe hret hR hS (zar4 hRc (Nat.le_refl _)) (zar4 hRs (Nat.le_refl _))
          · split at h
            · rename_i e0 ht
              rw [cond_eq_ite] at h
              split at h
              · rename_i hc
                cases h
                rw [Bool.and_eq_true] at hc
                rcases hQ with ⟨hQ, htab⟩ | ⟨⟨v, hv⟩, -⟩
                · subst hQ
                  have h1 : cells + 1 ≤ R.cells := zar11 (n := M.2.2.2.2.1) hRc
                  have h2 : slots + 6 ≤ R.slots := zar11 (n := M.2.2.2.2.2) hRs
                  exact zthr_ok hl B hq hNC hlocks hls (ztab0 hq hc.2 htab) ht (zble hc.1) hR hS (zar9 hRf).2 (zar10 hRl).2 h1 h2 h1 h2
                · cases hv
              · cases h
            · split at h
              · split at h
                · rename_i pc' st' hmt
                  exact zmath_ok B hls hS (zar9 hRf).1 (zar10 hRl).1 (zar4 hRc hle.1) (zar4 hRs hle.2.1) hd hlen hmt (ih d j pc' lv st' M o M' h p e R s m args below meth c H locs cells slots ls Q q hq B hNC hml hr hlocks hini hRf hRl hlv hnl hR hS hX hRc hRs hQ fin)
                · cases h
              · rename_i j' as rest hcall
                split at h
                · cases h
                · rename_i d'
                  split at h
                  · cases h
                  · rename_i v M1 hr1
                    have hle1 := zrun_le _ _ _ _ _ _ _ _ _ hr1
                    have hle2 := zrun_le _ _ _ _ _ _ _ _ _ h
                    intro T hT X
                    have hsz := X.heapSize
                    rw [hT] at hsz
                    have hrun := zcall_run (l := l) (e := e) (below := below) (meth := meth) (locs := locs) B hls hd hlen hcall hR (zPc_at B hNC hR hS (fun hx => Nat.le_trans hsz (hX hx))) (zar7 hRf) (zar8 hRl) (cells := cells) (slots := slots) ⟨zar5 hRc hle1.1 hle2.1, zar5 hRs hle1.2.1 hle2.2.1⟩ (fun q2 hq2 g1 g2 g3 => zmet ih hr1 hq2 g1 g2 g3 (zcall_len hcall hq2))
                    rcases hrun T hT X with ⟨v', st₀, t, T', L, h0, X', hL, e1, e2, ⟨hv, hR1, hF⟩, hgo⟩ | ⟨q9, st₀, t, T', L, E, ce, h0, X', hL, e1, e2, hxc, -⟩
                    · cases hv
                      obtain ⟨k1, k2, k3⟩ := vx_keep h0 e1 hS (fun _ _ h => h) (fun _ h => h) hL hF
                      have hst : (v.toList ++ rest).map (zcv G) = (v.map (zcv G)).toList ++ rest.map (zcv G) := by cases v <;> simp
                      have hW := ih (d' + 1) j (pc + 3) lv (v.toList ++ rest) M1 o M' h p e R s m args below meth c T'.heap (locs ++ L) _ _ ls Q q hq B hNC hml hr hlocks hini hRf hRl hlv hnl (by rw [e1]; exact hR1) k3 (fun hx => zar (hX (hle1.2.2 hx).1) (zar6 hle1.1) (hle1.2.2 hx).2) (zar2 hRc (zar6 hle1.1)) (zar2 hRs (zar6 hle1.2.1)) hQ fin
                      rw [hst] at hW
                      obtain ⟨t2, a1, b1⟩ := hW T' rfl X'
                      exact ⟨t2, hgo t2 a1, b1⟩
                    · exact absurd hxc id
                  · rename_i e0 M1 hr1
                    have hle1 := zrun_le _ _ _ _ _ _ _ _ _ hr1
                    have hM1 : M' = M1 := by
                      split at h
                      · cases h; rfl
                      · rw [cond_eq_ite] at h
                        split at h
                        · cases h; rfl
                        · cases h
                    subst hM1
                    intro T hT X
                    have hsz := X.heapSize
                    rw [hT] at hsz
                    have hrun := zcall_run (l := l) (e := e) (below := below) (meth := meth) (locs := locs) B hls hd hlen hcall hR (zPc_at B hNC hR hS (fun hx => Nat.le_trans hsz (hX hx))) (zar7 hRf) (zar8 hRl) (cells := cells) (slots := slots) ⟨zar5 hRc hle1.1 (Nat.le_refl _), zar5 hRs hle1.2.1 (Nat.le_refl _)⟩ (fun q2 hq2 g1 g2 g3 => zmet ih hr1 hq2 g1 g2 g3 (zcall_len hcall hq2))
                    rcases hrun T hT X with ⟨v', st₀, t, T', L, h0, X', hL, e1, e2, hf, -⟩ | ⟨q9, st₀, t, T', L, E, ce, h0, X', hL, e1, e2, ⟨hE, hR1, hF⟩, hce, hcv, hcl, hst⟩
                    · exact absurd hf id
                    · subst hE
                      obtain ⟨k1, k2, k3⟩ := vx_keep h0 e1 hS (fun _ _ h => h) (fun _ h => h) hL hF
                      have hR2 : zRel G M' T'.heap := by rw [e1]; exact hR1
                      have hce2 : T'.heap[q9]? = some ce := by rw [e1]; exact hce
                      have hc9 : cells + (M'.2.2.2.2.1 - M.2.2.2.2.1) ≤ R.cells := zar5 hRc hle1.1 (Nat.le_refl _)
                      have hs9 : slots + (M'.2.2.2.2.2 - M.2.2.2.2.2) ≤ R.slots := zar5 hRs hle1.2.1 (Nat.le_refl _)
                      split at h
                      · rename_i a hh
                        cases h
                        rcases hQ with ⟨hQ, htab⟩ | ⟨-, hno⟩
                        · subst hQ
                          obtain ⟨t2, a1, b1⟩ := zcatch (l := l) (e := e) (R := R) (below := below) (mc := R.cells) (ms := R.slots) (XC := zXc G (.inl (some (.int (Int32.ofNat a)))) M') (rest := rest.map (zcv G)) (pc := pc) hh hq B hNC hr hlocks htab hlv hR2 k3 hc9 hs9 hce2 hcv hcl T' rfl X'
                          exact ⟨t2, hst.trans a1, b1⟩
                        · rw [hno pc e0] at hh
                          cases hh
                      · rw [cond_eq_ite] at h
                        split at h
                        · rename_i hnh
                          cases h
                          rcases hQ with ⟨hQ, htab⟩ | ⟨⟨v, hv⟩, -⟩
                          · subst hQ
                            have hv9 := ztab0 hq hnh htab
                            obtain ⟨t2, a1, b1⟩ := vx_out (l := l) (p := p) (e := e) (R := R) (s := s) (m := m) (args := args) (below := below) (meth := meth) (c := c) (ls := ls) (rest := rest.map (zcv G)) (pc := pc) (Qc := zQc G (.inr e0) M') (XC := zXc G (.inr e0) M') (mc := R.cells) (ms := R.slots) (free := zA G) (fun x hx => absurd hx (fun h => hv9 x h)) hlocks hce2 hcv hcl (fun t9 ht9 _ => ⟨rfl, by rw [ht9]; exact hR2, by rw [ht9]; exact k3.1, fun q h1 h2 => by rw [ht9]; exact k3.2.1 q h1 h2⟩) k3.2.2 hc9 hs9 T' rfl X'
                            exact ⟨t2, hst.trans a1, b1⟩
                          · cases hv
                        · cases h

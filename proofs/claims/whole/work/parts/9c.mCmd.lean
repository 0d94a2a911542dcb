/-! the reference: reading commands, chains of characters and digits -/
section MCMD
variable {n : Nat} {h : mH} {A M : Nat → Nat → Int32} {R : Nat → Nat → Option Nat} {S : St} {T : List Nat} {i : Nat} {f g G F : mH → Option (Int32 × mH)} {l l1 l2 : List Nat} {v : Int32}
def FrQ (M M' : Nat → Nat → Int32) : Prop := Fr [33] [12] M M'
def ret1 : mH → Option (Int32 × mH) := fun h => some (nI 1, h)
def RDt (n : Nat) (h : mH) (A : Nat → Nat → Int32) (R : Nat → Nat → Option Nat) (T : List Nat) (f : mH → Option (Int32 × mH)) (l : List Nat) (G : mH → Option (Int32 × mH)) : Prop := ∀ (M : Nat → Nat → Int32) (i : Nat), TM M T → M 0 12 = nI i → i ≤ T.length → ∃ M', FrQ M M' ∧ M' 0 12 = nI (sq T l i).2 ∧ f (E n h A M R) = (if (sq T l i).1 = true then G (E n h A M' R) else some (nI 0, E n h A M' R)) ∧ (∀ j, (∀ c ∈ l, c ≠ 200 + j) → M' 33 j = M 33 j) ∧ ((sq T l i).1 = true → ∀ t, t < l.length → 200 ≤ l.getD t 0 → M' 33 (l.getD t 0 - 200) = nI (T.getD (i + t) 0 - 48))
theorem TM_q {M' : Nat → Nat → Int32} {rows sc : List Nat} (t : TM M T) (f : Fr rows sc M M') (h1 : 6 ∉ rows) (h2 : 11 ∉ sc) : TM M' T := ⟨by rw [f.2 _ h2]; exact t.1, t.2.1, fun k hk => by rw [f.1 6 (by decide) h1]; exact t.2.2 k hk⟩
theorem rd_lit {c : Nat} (hv : v = nI c) (h1 : 1 ≤ c) (h2 : c < 128) : RDt n h A R T (f_X12_reads (ma n 0) v) [c] ret1 := by
  intro M i t hi hi2
  have t60 := t.2.1
  have hm : mtc c (T.getD i 0) ↔ T.getD i 0 = c := by
    unfold mtc
    rw [if_pos (by omega)]
  unfold sq sq
  rw [hv]
  by_cases q : T.getD i 0 = c
  · obtain ⟨hl, e⟩ := m_readsT (n := n) (h := h) (A := A) (R := R) t hi h1 h2 q
    rw [if_pos (hm.mpr q)]
    refine ⟨_, Fr_r0 _ (by decide), by rw [ro_at, up_at], e, fun j _ => by rw [ro_ne _ _ (by decide)], fun _ k hk h200 => ?_⟩
    have hk : k < 1 := hk
    have hk : k = 0 := by omega
    rw [hk] at h200
    have h200 : 200 ≤ c := h200
    omega
  · have e := m_readsF (n := n) (h := h) (A := A) (R := R) t hi (by omega) h1 h2 q
    rw [if_neg (fun z => q (hm.mp z))]
    exact ⟨M, Fr_rf _ _ _, hi, e, fun _ _ => rfl, fun z => absurd z Bool.false_ne_true⟩
theorem rd_dig {k : Nat} (hv : v = nI k) (hk : k < 3) : RDt n h A R T (f_X12_readsDigit (ma n 0) v) [200 + k] ret1 := by
  intro M i t hi hi2
  have t60 := t.2.1
  have hm : mtc (200 + k) (T.getD i 0) ↔ 48 ≤ T.getD i 0 ∧ T.getD i 0 ≤ 57 := by
    unfold mtc
    rw [if_neg (by omega)]
  unfold sq sq
  rw [hv]
  unfold f_X12_readsDigit
  by_cases q : 48 ≤ T.getD i 0 ∧ T.getD i 0 ≤ 57
  · have hl : i < T.length := mtc_pos (by omega) (hm.mpr q)
    have e := fun M t hi => m_nextT (n := n) (h := h) (A := A) (M := M) (R := R) (T := T) (i := i) t hi hl
    have e0 := e M t hi
    have eb := m_between (v := T.getD i 0) (a := 48) (b := 57) (g := E n h A M R) (by omega) q.1 q.2 (by decide)
    rw [if_pos (hm.mpr q)]
    refine ⟨ro (ro M 33 (up (M 33) k (nI (T.getD i 0 - 48)))) 0 (up (M 0) 12 (nI (i + 1))), Fr_tr (Fr_ro _ (by decide) (by decide)) ⟨fun q h0 _ => ro_ne _ _ h0, fun q hq => by
      rw [ro_at, ro_ne _ _ (by decide)]
      exact up_ne _ _ (fun e => hq (by rw [e]; decide))⟩, by rw [ro_at, up_at], ?_, fun j hj => ?_, fun _ t' ht' h200 => ?_⟩
    · unfold ret1
      simp (disch := omega) only [↓grd_u, ↓bnd_e, ↓orf_u, ↓oif_u, ↓cal_u, ↓calX_u, ↓inrO_u, ↓reduceIte, EM, EMg, EMs, z0, oi, n_inbT, n_cntT, n_ltT, n_ltF, n_leT, n_leF, n_eqT, n_eqF, n_m1T, n_m1F, n_m1F', n_cl, n_add, n_mul, ro_at, ro_ro, up_at, up_up, ro_ne, up_ne, ro_sw, e0, eb, hi, n_sub]
    · rw [ro_ne _ _ (by decide), ro_at, up_ne _ _ (fun z => hj (200 + k) List.mem_cons_self (by rw [z]))]
    · have ht' : t' < 1 := ht'
      have ht' : t' = 0 := by omega
      rw [ht']
      show (ro (ro M 33 (up (M 33) k (nI (T.getD i 0 - 48)))) 0 (up (M 0) 12 (nI (i + 1)))) 33 (200 + k - 200) = nI (T.getD i 0 - 48)
      rw [Nat.add_sub_cancel_left, ro_ne _ _ (by decide), ro_at, up_at]
  · rw [if_neg (fun z => q (hm.mp z))]
    refine ⟨M, Fr_rf _ _ _, hi, ?_, fun _ _ => rfl, fun z => absurd z Bool.false_ne_true⟩
    rcases Nat.lt_or_ge i T.length with z | z
    · have b := (t.2.2 i z).2
      have e0 := m_nextT (n := n) (h := h) (A := A) (R := R) t hi z
      have eb := m_betweenF (v := nI (T.getD i 0)) (a := nI 48) (b := nI 57) (g := E n h A M R) (by
        rcases Nat.lt_or_ge (T.getD i 0) 48 with y | y
        · left
          rw [n_lt (by omega) (by decide)]
          exact y
        · right
          rw [n_lt (by decide) (by omega)]
          omega)
      rw [if_neg Bool.false_ne_true]
      simp (disch := omega) only [↓grd_u, ↓bnd_e, ↓orf_u, ↓oif_u, ↓cal_u, ↓calX_u, ↓inrO_u, ↓reduceIte, EM, EMg, EMs, z0, oi, n_inbT, n_cntT, n_ltT, n_ltF, n_leT, n_leF, n_eqT, n_eqF, n_m1T, n_m1F, n_m1F', n_cl, n_add, n_mul, ro_at, ro_ro, up_at, up_up, e0, eb]
    · have e0 := m_nextF (n := n) (h := h) (A := A) (R := R) t hi z (by omega)
      have eb := m_betweenF (v := Int32.ofInt (-1)) (a := nI 48) (b := nI 57) (g := E n h A M R) (Or.inl (by decide +kernel))
      rw [if_neg Bool.false_ne_true]
      simp (disch := omega) only [↓grd_u, ↓bnd_e, ↓orf_u, ↓oif_u, ↓cal_u, ↓calX_u, ↓inrO_u, ↓reduceIte, EM, EMg, EMs, z0, oi, n_inbT, n_cntT, n_ltT, n_ltF, n_leT, n_leF, n_eqT, n_eqF, n_m1T, n_m1F, n_m1F', n_cl, n_add, n_mul, ro_at, ro_ro, up_at, up_up, e0, eb]
theorem rdt_end (hG : ∀ h, g h = G h) : RDt n h A R T g [] G := fun M i _ hi _ => ⟨M, Fr_rf _ _ _, hi, by rw [hG]; exact (if_pos rfl).symm, fun _ _ => rfl, fun _ k hk => absurd hk (Nat.not_lt_zero _)⟩
theorem rdt_grd (hf : RDt n h A R T f l G) : RDt n h A R T (fun h => grd (kd h (ma n 0) = 17) (f h)) l G := fun M i t hi hi2 => by
  obtain ⟨M', a, b, c, d⟩ := hf M i t hi hi2
  refine ⟨M', a, b, ?_, d⟩
  rw [← c]
  simp (disch := omega) only [↓grd_u, ↓bnd_e, ↓orf_u, ↓oif_u, ↓cal_u, ↓calX_u, ↓inrO_u, ↓reduceIte, EM, EMg, EMs, z0, oi, n_inbT, n_cntT, n_ltT, n_ltF, n_leT, n_leF, n_eqT, n_eqF, n_m1T, n_m1F, n_m1F', n_cl, n_add, n_mul, ro_at, ro_ro, up_at, up_up]
theorem rdt_sub (hF : ∀ h, F h = some (nI 0, h)) (hf : RDt n h A R T f l1 ret1) (hg : RDt n h A R T g l2 G) (hp : ∀ c ∈ l1, 1 ≤ c) (hd : ∀ c ∈ l1, 200 ≤ c → c ∉ l2) : RDt n h A R T (fun h => cal (f h) fun x h1 => if x = 0 then F h1 else g h1) (l1 ++ l2) G := fun M i t hi hi2 => by
  obtain ⟨M1, a1, b1, c1, d1, e1⟩ := hf M i t hi hi2
  rw [sq_app]
  obtain ⟨s1, s2, s3, -⟩ := sq_ok (T := T) l1 i hp hi2
  match es : sq T l1 i with
  | (false, j) =>
    rw [es] at b1 c1
    refine ⟨M1, a1, b1, ?_, fun j hj => d1 j (fun c hc => hj c (List.mem_append_left _ hc)), fun z => absurd z Bool.false_ne_true⟩
    have c1 : f (E n h A M R) = some (nI 0, E n h A M1 R) := c1
    show cal (f (E n h A M R)) _ = some (nI 0, E n h A M1 R)
    rw [c1]
    exact hF _
  | (true, j) =>
    rw [es] at b1 c1 e1 s1 s2 s3
    have c1 : f (E n h A M R) = some (nI 1, E n h A M1 R) := c1
    have s3 := (s3 rfl).1
    have s3 : j = i + l1.length := s3
    obtain ⟨M2, a2, b2, c2, d2, e2⟩ := hg M1 j (TM_q t a1 (by decide) (by decide)) b1 s2
    refine ⟨M2, Fr_tr a1 a2, b2, ?_, fun k hk => by rw [d2 k (fun c hc => hk c (List.mem_append_right _ hc)), d1 k (fun c hc => hk c (List.mem_append_left _ hc))], fun z k hk h200 => ?_⟩
    · show cal (f (E n h A M R)) _ = _
      rw [c1, ← c2]
      show (if nI 1 = 0 then F (E n h A M1 R) else g (E n h A M1 R)) = g (E n h A M1 R)
      rw [if_neg (by decide)]
    · rw [List.length_append] at hk
      by_cases q : k < l1.length
      · rw [gD_l q] at h200 ⊢
        rw [d2]
        · exact e1 rfl k q h200
        · intro c hc z
          have hm : l1.getD k 0 ∈ l1 := by
            rw [List.getD_eq_getElem?_getD, List.getElem?_eq_getElem q]
            exact List.getElem_mem q
          exact hd _ hm h200 (by rw [show l1.getD k 0 = c by omega]; exact hc)
      · rw [gD_r (by omega)] at h200 ⊢
        have := e2 z (k - l1.length) (by omega) h200
        rw [this, s3]
        congr 2
        congr 1
        omega
theorem rdt_c {c : Nat} (hF : ∀ h, F h = some (nI 0, h)) (hf : RDt n h A R T f [c] ret1) (hg : RDt n h A R T g l2 G) (hp : 1 ≤ c) (hd : 200 ≤ c → c ∉ l2) : RDt n h A R T (fun h => cal (f h) fun x h1 => if x = 0 then F h1 else g h1) (c :: l2) G := rdt_sub (l1 := [c]) hF hf hg (fun x hx => by rw [List.mem_singleton.mp hx]; exact hp) (fun x hx => by rw [List.mem_singleton.mp hx]; exact hd)
theorem rdt_last (hF : ∀ h, F h = some (nI 0, h)) (hf : RDt n h A R T f l1 ret1) (hG : ∀ h, g h = G h) (hp : ∀ c ∈ l1, 1 ≤ c) : RDt n h A R T (fun h => cal (f h) fun x h1 => if x = 0 then F h1 else g h1) l1 G := by
  have := rdt_sub (l2 := []) hF hf (rdt_end hG) hp (fun _ _ _ => by simp)
  rw [List.append_nil] at this
  exact this
/-- three digits behind a keyword -/
theorem rd_three : RDt n h A R T (f_X12_readsThree (ma n 0)) [32, 200, 61, 201, 44, 202] ret1 := by
  have hF : ∀ h, g_X12_readsThree_55 h = some (nI 0, h) := fun h => by
    unfold g_X12_readsThree_55 g_X12_readsThree_56
    simp only [↓grd_u, ↓bnd_e, ↓orf_u, ↓oif_u, ↓cal_u, ↓calX_u, ↓inrO_u, ↓reduceIte, EM, EMg, EMs, z0, oi, n_inbT, n_cntT, n_ltT, n_ltF, n_leT, n_leF, n_eqT, n_eqF, n_m1T, n_m1F, n_m1F', n_cl, n_add, n_mul, ro_at, ro_ro, up_at, up_up, nz0]
  have hG : ∀ h, g_X12_readsThree_56 (Int32.ofInt 1) h = ret1 h := fun h => by
    unfold g_X12_readsThree_56 ret1
    simp only [↓grd_u, ↓bnd_e, ↓orf_u, ↓oif_u, ↓cal_u, ↓calX_u, ↓inrO_u, ↓reduceIte, EM, EMg, EMs, z0, oi, n_inbT, n_cntT, n_ltT, n_ltF, n_leT, n_leF, n_eqT, n_eqF, n_m1T, n_m1F, n_m1F', n_cl, n_add, n_mul, ro_at, ro_ro, up_at, up_up, nz1]
  exact rdt_grd (rdt_c hF (rd_lit rfl (by decide) (by decide)) (rdt_grd (rdt_c hF (rd_dig (k := 0) rfl (by decide)) (rdt_grd (rdt_c hF (rd_lit rfl (by decide) (by decide)) (rdt_grd (rdt_c hF (rd_dig (k := 1) rfl (by decide)) (rdt_grd (rdt_c hF (rd_lit rfl (by decide) (by decide)) (rdt_grd (rdt_c hF (rd_dig (k := 2) rfl (by decide)) (rdt_end hG) (by decide) (by decide))) (by decide) (by decide))) (by decide) (by decide))) (by decide) (by decide))) (by decide) (by decide))) (by decide) (by decide))
end MCMD

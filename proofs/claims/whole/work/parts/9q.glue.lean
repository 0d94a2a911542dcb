/-! both sides together -/
section GLUE
variable {N : Nat} {h : mH} {A M : Nat → Nat → Int32} {R : Nat → Nat → Option Nat} {S : St}
/-- the invariant of a run: both sides hold the same state -/
def INV (N : Nat) (_ : Nat) (k : mH) : Prop := ∃ h A M R S, k = E N h A M R ∧ IC N h A R S ∧ IM M S ∧ GoodS S
theorem inv_ok {k : mH} {t : Nat} (hk : INV N t k) : hOK N (N + 97) (N + 131) (N + 132) k := by
  obtain ⟨h, A, M, R, S, rfl, hi, -, -⟩ := hk
  obtain ⟨a0, a1, a2, a3, a4⟩ := hi.1
  refine ⟨?_, ?_, ?_, ?_, ?_, ?_⟩
  · have := kd_C (n := N) (h := h) (A := A) (M := M) (R := R) (r := 0) (by decide)
    exact this
  · have := kd_M (n := N) (h := h) (A := A) (M := M) (R := R) (r := 0) (by decide)
    exact this
  · rw [kd_X (Nat.le_refl _)]; exact a1
  · rw [sz_X (Nat.le_refl _), a2]; decide
  · rw [kd_X (by omega)]; exact a3
  · rw [sz_X (by omega), a4]; decide
theorem IC_sl {a k : Nat} {v : Int64} (hi : IC N h A R S) : IC N (sl h a k v) A R S := IC_wk hi ⟨Nat.le_refl _, fun _ _ _ => ⟨rfl, rfl, rfl, rfl⟩⟩ (fun _ _ => rfl)
theorem IC_sd {a k : Nat} {v : UInt64} (hi : IC N h A R S) : IC N (sd h a k v) A R S := IC_wk hi ⟨Nat.le_refl _, fun _ _ _ => ⟨rfl, rfl, rfl, rfl⟩⟩ (fun _ _ => rfl)
theorem IC_sn {m : Nat} (hi : IC N h A R S) (hm : nx h ≤ m) : IC N (sn h m) A R S := IC_wk hi ⟨hm, fun _ _ _ => ⟨rfl, rfl, rfl, rfl⟩⟩ (fun _ _ => rfl)
theorem gi_m0 : gi (E N h A M R) (N + 97) 0 = M 0 0 := gi_M (n := N) (r := 0) (by decide)
theorem glueT {es : List String} {ex : Nat → String} {q : Nat × Nat × St} {fx : Option ((Int32 ⊕ String) × mH)} {fm : mH → Option (Int32 × mH)} {c : Int32 → Int64} {m t : Nat} (hc : CA N M fx ex q) (hm : ∀ h A R, MA N h A R (fm (E N h A M R)) q) (hg : GoodS q.2.2) (hb : q.1 ≤ m) (hm9 : m < 10) (he : ∀ e, 1 ≤ e → e ≤ m → ex e ∈ es ∧ cdl es (ex e) = nI e) : opT N (N + 97) (N + 131) (N + 132) (INV N t) fx (fun r k => sl k (N + 131) 0 (c r)) es fm (fun b k => gl k (N + 131) 0 = c b) := by
  obtain ⟨h', A', R', rfl, ic⟩ := hc
  have kok : ∀ h'' M'', IC N h'' A' R' q.2.2 → IM M'' q.2.2 → INV N t (E N h'' A' M'' R') := fun h'' M'' a b => ⟨h'', A', M'', R', q.2.2, rfl, a, b, hg⟩
  have kho : ∀ h'' M'', IC N h'' A' R' q.2.2 → hOK N (N + 97) (N + 131) (N + 132) (E N h'' A' M'' R') := fun h'' M'' a => by
    obtain ⟨a0, a1, a2, a3, a4⟩ := a.1
    refine ⟨?_, ?_, ?_, ?_, ?_, ?_⟩
    · exact kd_C (n := N) (h := h'') (A := A') (M := M'') (R := R') (r := 0) (by decide)
    · exact kd_M (n := N) (h := h'') (A := A') (M := M'') (R := R') (r := 0) (by decide)
    · rw [kd_X (Nat.le_refl _)]; exact a1
    · rw [sz_X (Nat.le_refl _), a2]; decide
    · rw [kd_X (by omega)]; exact a3
    · rw [sz_X (by omega), a4]; decide
  by_cases q0 : q.1 = 0
  · rw [if_pos q0]
    refine ⟨_, rfl, kho _ _ ic, fun e k z => ?_, fun v k z => ?_⟩
    · exact absurd (congrArg Prod.fst z) (fun y => by cases y)
    · obtain ⟨zv, zk⟩ := z
      have ic2 : IC N (sl h' (N + 131) 0 (c (nI q.2.1))) A' R' q.2.2 := IC_sl ic
      obtain ⟨M', e, im, th⟩ := hm (sl h' (N + 131) 0 (c (nI q.2.1))) A' R'
      refine ⟨Int32.ofInt 0, nI q.2.1, E N (sl h' (N + 131) 0 (c (nI q.2.1))) A' M' R', zv, ?_, ?_, kho _ _ ic2, ?_, fun _ => ?_, kok _ _ ic2 im⟩
      · rw [zk]; exact (kho _ _ ic2).2.1
      · rw [zk]; exact e
      · rw [gi_m0, th, q0]; rfl
      · show (if N + 131 = N + 131 ∧ 0 = 0 then c (nI q.2.1) else gl h' (N + 131) 0) = c (nI q.2.1)
        rw [if_pos ⟨rfl, rfl⟩]
  · rw [if_neg q0]
    obtain ⟨he1, he2⟩ := he q.1 (Nat.pos_of_ne_zero q0) hb
    refine ⟨_, rfl, kho _ _ ic, fun e k z => ?_, fun v k z => ?_⟩
    · have := congrArg Prod.fst z
      have : ex q.1 = e := by injection this
      rw [← this]
      exact he1
    · obtain ⟨zv, mm, hmm, zk⟩ := z
      have ic2 : IC N (sn h' mm) A' R' q.2.2 := IC_sn ic hmm
      obtain ⟨M', e, im, th⟩ := hm (sn h' mm) A' R'
      refine ⟨cdl es (ex q.1), nI q.2.1, E N (sn h' mm) A' M' R', zv, ?_, ?_, kho _ _ ic2, ?_, fun y => ?_, kok _ _ ic2 im⟩
      · rw [zk]; exact (kho _ _ ic2).2.1
      · rw [zk]; exact e
      · rw [gi_m0, th, he2]
      · exfalso
        rw [he2] at y
        have hq : q.1 < 2147483648 := by omega
        have y : nI q.1 = nI 0 := y
        rw [n_eq hq (by decide)] at y
        exact q0 y
theorem glueN {v : Nat} {S' : St} {fx : Option (Int32 × mH)} {fm : mH → Option (Int32 × mH)} {t : Nat} {h' : mH} {A' : Nat → Nat → Int32} {R' : Nat → Nat → Option Nat} (hx : fx = some (nI v, E N h' A' M R')) (ic : IC N h' A' R' S') (hm : ∀ h A R, MA N h A R (fm (E N h A M R)) (0, v, S')) (hg : GoodS S') : opN N (N + 97) (N + 131) (N + 132) (INV N t) fx fm := by
  obtain ⟨M', e, im, th⟩ := hm h' A' R'
  have ki : INV N t (E N h' A' M' R') := ⟨h', A', M', R', S', rfl, ic, im, hg⟩
  exact ⟨nI v, E N h' A' M R', E N h' A' M' R', hx, kd_M (n := N) (r := 0) (by decide), e, inv_ok ki, ki⟩
end GLUE

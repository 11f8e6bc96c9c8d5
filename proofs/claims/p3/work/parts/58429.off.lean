/-! a row that doesn't tell: a change of it comes to what is wanted only if that is seen as it is -/
section ZSD
theorem RoI_ex {h : my_H} {v k : Int} : ∃ r : Int, RoI h v k r := by
  have go : ∀ n : Nat, (∀ i : Int, 0 ≤ i → i < n → h (v + 1) (17 * i + 16) ≠ k) ∨ ∃ r : Int, 0 ≤ r ∧ r < n ∧ h (v + 1) (17 * r + 16) = k ∧ ∀ i : Int, 0 ≤ i → i < r → h (v + 1) (17 * i + 16) ≠ k := by
    intro n
    induction n with
    | zero => exact Or.inl (fun i a b => by omega)
    | succ n ih =>
      rcases ih with p | ⟨r, r0, r1, z⟩
      · by_cases q : h (v + 1) (17 * (n : Int) + 16) = k
        · exact Or.inr ⟨n, by omega, by omega, q, p⟩
        · refine Or.inl (fun i a b => ?_)
          by_cases e : i = n
          · rw [e]; exact q
          · exact p i a (by omega)
      · exact Or.inr ⟨r, r0, by omega, z⟩
  rcases go (h v 0).toNat with p | ⟨r, r0, r1, t, p⟩
  · exact ⟨-1, Or.inl ⟨rfl, fun i a b => p i a (by omega)⟩⟩
  · exact ⟨r, Or.inr ⟨r0, by omega, t, p⟩⟩
/-- a bit that is off -/
theorem TeI_off {h : my_H} {b m y c : Int} {S : Int → Int} {P : List zqP} (T : TeI h b y 20) (hS : ∀ j : Int, h 96 j = S j) (c0 : 0 ≤ c) (c1 : c ≤ 59) (off : ¬ zqlb y c) (hv : VwI h 98 S b m P) (ns : zqNS P) : ∀ k : Int, 0 ≤ k → k < 20 → S (80 * b + 4 * k) ≠ -1 → zqTk S b m P k c → h 94 14 = 0 ∧ (zqD S m P (zqB S b m k) = none → h 94 15 ≠ 2) ∧ (zqD S m P (zqB S b m k) = some (zqE h 98 (h 98 1) (h 94 16).toNat).2 → h 94 15 = 2) := fun k k0 k1 hk tk => by
  have bit := ((hv.2.2.2.2 ns).2 k c k0 (by omega) c0 c1 hk).mpr tk
  have nt : ¬ TlK h k := fun z => off ((T c c0 c1).mpr ⟨k, k0, k1, by rw [hS]; exact hk, z, bit⟩)
  obtain ⟨r, ro⟩ := RoI_ex (h := h) (v := 98) (k := k)
  have sn := RoI_seen hv ns k0 (by omega) hk ro
  refine ⟨Decidable.byContradiction (fun z => nt (Or.inl z)), fun z => ?_, fun z => ?_⟩
  · intro e2
    by_cases rr : r = -1
    · exact nt (Or.inr ⟨r, ro, Or.inl ⟨rr, e2⟩⟩)
    · rw [sn.2 rr] at z; cases z
  · refine Decidable.byContradiction (fun e2 => ?_)
    by_cases rr : r = -1
    · rw [sn.1 rr] at z; cases z
    · rw [sn.2 rr] at z
      exact nt (Or.inr ⟨r, ro, Or.inr ⟨rr, e2, Option.some.inj z⟩⟩)
theorem zqS_eq {S : Int → Int} {m b : Int} {P : List zqP} (ns : zqNS P) : zqRun S m ((zqLd S b m 20).map Prod.snd) P = ((zqLd S b m 20).map Prod.snd).filterMap (zqD S m P) := zqRun_D P ns
/-- the change is skipped, or taken unseen, rightly -/
theorem tell_skip {h : my_H} {b m y c i j v : Int} {S S' D : Int → Int} {P : List zqP} (T : TeI h b y 20) (hS : ∀ j : Int, h 96 j = S j) (c0 : 0 ≤ c) (c1 : c ≤ 59) (off : ¬ zqlb y c) (hv : VwI h 98 S b m P) (ns : zqNS P) (m4 : m ≤ 4) (e : ∀ j : Int, (j < 4 * c ∨ 4 * c + 4 ≤ j) → S' j = S j) (hc : S (4 * c) ≠ -1) (n4 : ∀ p ∈ P, p.1 = 4 → p.2.2.2.1 ≤ 4)
    (he : 0 ≤ h 94 15 ∧ h 94 15 ≤ 2) (hi : h 94 15 ≠ 2 → 0 ≤ h 94 16 ∧ h 94 16 < h 98 0) (ei : i = h 94 16) (W : List zqR) (hW : W.Perm (EdLh h (h 94 15) i j v D)) (as : h 94 14 ≠ 0 ↔ ((zqL (zqE h 98 (h 98 1)) (h 98 0).toNat).map Prod.snd).Perm W) : (zqRun S' m ((zqLd S' b m 20).map Prod.snd) P).Perm W ↔ h 94 14 ≠ 0 := by
  subst ei
  have O := TeI_off T hS c0 c1 off hv ns
  have v1 := hv.1
  have v4 := hv.2.2.2.1
  rw [← v1, zqS_eq ns] at v4
  rw [zqS_eq ns]
  by_cases A : h 94 14 = 0
  · refine ⟨fun q => ?_, fun z => absurd A z⟩
    exfalso
    have nq := q.trans hW
    by_cases e2 : h 94 15 = 2
    · have L := zqKeep_len (S := S) (S' := S') (b := b) (P := P) m4 e hc n4 20 (fun k k0 k1 hk d tk => (O k k0 k1 hk tk).2.1 d e2)
      have l1 := nq.length_eq
      have l2 := v4.length_eq
      rw [List.length_map, zqL_len] at l2
      unfold EdLh at l1
      rw [EdL_len2 e2] at l1
      omega
    · have hh := hi e2
      have C := zqKeep_ct (S := S) (S' := S') (b := b) (P := P) (x := (zqE h 98 (h 98 1) (h 94 16).toNat).2) m4 e hc n4 20 (fun k k0 k1 hk d tk => e2 ((O k k0 k1 hk tk).2.2 d))
      have q1 := zqCt_perm (x := (zqE h 98 (h 98 1) (h 94 16).toNat).2) v4
      have q2 := zqCt_perm (x := (zqE h 98 (h 98 1) (h 94 16).toNat).2) nq
      rw [zqL_map] at q1
      have q3 := EdL_ct (f := fun k => (zqE h 98 (h 98 1) k).2) (n := (h 98 0).toNat) (W := h 98 1) (e := h 94 15) (i := h 94 16) (j := j) (v := v) (D := D) hh.1 (by omega) (by omega) (fun e0 same => by
        refine absurd A (as.mpr ?_)
        refine List.Perm.trans ?_ hW.symm
        unfold EdLh
        rw [EdL_same e0 (fun k hk => by rw [show k = (h 94 16).toNat by omega]; exact same), zqL_map])
      have q2' : zqCt (zqE h 98 (h 98 1) (h 94 16).toNat).2 (List.filterMap (zqD S' m P) (List.map Prod.snd (zqLd S' b m 20))) = zqCt (zqE h 98 (h 98 1) (h 94 16).toNat).2 (EdL (fun k => (zqE h 98 (h 98 1) k).2) (h 98 0).toNat (h 98 1) (h 94 15) (h 94 16) j v D) := q2
      have q3' : zqCt (zqE h 98 (h 98 1) (h 94 16).toNat).2 (EdL (fun k => (zqE h 98 (h 98 1) k).2) (h 98 0).toNat (h 98 1) (h 94 15) (h 94 16) j v D) + 1 = zqCt (zqE h 98 (h 98 1) (h 94 16).toNat).2 (zqL (fun k => (zqE h 98 (h 98 1) k).2) (h 98 0).toNat) := q3
      omega
  · refine ⟨fun _ => A, fun _ => ?_⟩
    have K := zqKeep_all (S := S) (S' := S') (b := b) (P := P) m4 e hc n4 20 (fun k k0 k1 hk tk => A (O k k0 k1 hk tk).1)
    rw [K]
    exact v4.symm.trans (as.mp A)
end ZSD

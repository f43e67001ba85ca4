-- the reader's methods over its whole state: steps
section RDM
variable {h0 h : xb_H} {rd op md cd nt im N M rc rs : Nat} {rw : Nat → Nat} {cb : Nat → Int32} {it n n1 : Nat → Nat} {vs vs1 : Nat → Nat → Int64} {ν iv : Nat → Int32} {a : Nat} {l : Int} {bc bs : Nat} {Qt : String → xb_H → Nat → Nat → Prop}
theorem rd_G.addA (hG : rd_G h0 h rd op md cd nt im N M rc rs rw cb it n1 vs1 ν iv a l bc bs) {k : Nat} {x : Int64} {L : List Int64} {Qr : xb_H → Nat → Nat → Prop} (hk : k < 12) (hA : xr_A k n vs n1 vs1 L) (hn : n k + L.length < M) (hM : M ≤ 1000000)
    (hQ : ∀ (h' : xb_H) (it' n2 : Nat → Nat) (vs2 : Nat → Nat → Int64) (bc' bs' : Nat), rd_G h0 h' rd op md cd nt im N M rc rs rw cb it' n2 vs2 ν iv a l bc' bs' → xr_A k n vs n2 vs2 (L ++ [x]) → Qr h' bc' bs') : w_Row_add (rw k) x h bc bs Qr :=
  hG.add hk (by rw [hA.1]; exact hn) hM (fun h' it' bc' bs' g => hQ h' it' _ _ bc' bs' g (hA.sn x))
theorem rdG_count {Qr : Int32 → xb_H → Nat → Nat → Prop} (hT : rd_T h0 rd op md rc rs Qt) (hG : rd_G h0 h rd op md cd nt im N M rc rs rw cb it n vs ν iv a l bc bs)
    (hQ : ∀ (u : Int32) (h' : xb_H) (q : Nat), a < q → (q : Int) ≤ l → rd_G h0 h' rd op md cd nt im N M rc rs rw cb it n vs ν iv q l bc bs → Qr u h' bc bs) : w_Reader_count rd h bc bs Qr Qt :=
  sp_Reader_count hT hG.X hG.s hG.c hG.b (fun u v g1 g2 => hQ u _ v.toInt.toNat (by omega) (by omega) (hG.at (by omega) (by omega)))
theorem rdG_byteUpTo {x : Int32} {Qr : Int32 → xb_H → Nat → Nat → Prop} (hT : rd_T h0 rd op md rc rs Qt) (hG : rd_G h0 h rd op md cd nt im N M rc rs rw cb it n vs ν iv a l bc bs)
    (hQ : ∀ (u : Int32) (h' : xb_H), 0 ≤ u.toInt → u.toInt ≤ x.toInt → (a : Int) + 1 ≤ l → rd_G h0 h' rd op md cd nt im N M rc rs rw cb it n vs ν iv (a + 1) l bc bs → Qr u h' bc bs) : w_Reader_byteUpTo rd x h bc bs Qr Qt :=
  sp_Reader_byteUpTo hT hG.X hG.s hG.c hG.b (fun u v g1 g2 g3 g4 => hQ u _ g3 g4 (by omega) (hG.at (by omega) (by omega)))
theorem rdG_valueType {Qr : Int32 → xb_H → Nat → Nat → Prop} (hT : rd_T h0 rd op md rc rs Qt) (hG : rd_G h0 h rd op md cd nt im N M rc rs rw cb it n vs ν iv a l bc bs) (hby : ∀ j, -128 ≤ (cb j).toInt ∧ (cb j).toInt ≤ 127)
    (hQ : ∀ (u : Int32) (h' : xb_H), 124 ≤ u.toInt → u.toInt ≤ 127 → u.toInt = (cb a).toInt → (a : Int) + 1 ≤ l → rd_G h0 h' rd op md cd nt im N M rc rs rw cb it n vs ν iv (a + 1) l bc bs → Qr u h' bc bs) : w_Reader_valueType rd h bc bs Qr Qt :=
  sp_Reader_valueType hT hG.X hG.s hG.c hG.b (fun u v g1 g2 g3 g4 g5 => by
    have e : u.toInt = (cb a).toInt := by
      have h1 := hby a
      rw [hG.icd, Int.toNat_natCast] at g5
      have h2 := z_255 (cb a)
      rw [← g5] at h2
      omega
    exact hQ u _ g3 g4 e (by omega) (hG.at (by omega) (by omega)))
theorem rdG_readMark {x : Int32} {Qr : xb_H → Nat → Nat → Prop} (hT : rd_T h0 rd op md rc rs Qt) (hG : rd_G h0 h rd op md cd nt im N M rc rs rw cb it n vs ν iv a l bc bs)
    (hQ : ∀ h' : xb_H, (a : Int) + 1 ≤ l → rd_G h0 h' rd op md cd nt im N M rc rs rw cb it n vs ν iv (a + 1) l bc bs → Qr h' bc bs) : w_Reader_readMark rd x h bc bs Qr Qt :=
  sp_Reader_readMark hT hG.X hG.s hG.c hG.b (fun v g1 g2 => hQ _ (by omega) (hG.at (by omega) (by omega)))
theorem rdG_readName {Qr : Int32 → xb_H → Nat → Nat → Prop} (hT : rd_T h0 rd op md rc rs Qt) (hG : rd_G h0 h rd op md cd nt im N M rc rs rw cb it n vs ν iv a l bc bs)
    (hQ : ∀ (u : Int32) (h' : xb_H) (q : Nat), 0 ≤ u.toInt → a + u.toInt < q → (q : Int) ≤ l → rd_G h0 h' rd op md cd nt im N M rc rs rw cb it n vs ν iv q l bc bs → Qr u h' bc bs) : w_Reader_readName rd h bc bs Qr Qt :=
  sp_Reader_readName hT hG.X hG.s hG.c hG.b (fun u v g1 g2 g3 => hQ u _ v.toInt.toNat g1 (by omega) (by omega) (hG.at (by omega) (by omega)))
theorem rdG_readTypes_L18 {Qr : Int32 → xb_H → Nat → Nat → Prop} (hT : rd_T h0 rd op md rc rs Qt) (hby : ∀ j, -128 ≤ (cb j).toInt ∧ (cb j).toInt ≤ 127) {x1 : Int64} {x3 : Int32} {f0 : Nat} (hf : x3.toInt = f0)
    (hQ : ∀ (u : Int32) (h' : xb_H) (q t : Nat), u.toInt = t → f0 + t = q → (q : Int) ≤ l → (∀ j, f0 ≤ j → j < q → 124 ≤ (cb j).toInt ∧ (cb j).toInt ≤ 127) → rd_G h0 h' rd op md cd nt im N M rc rs rw cb it n vs ν iv q l bc bs → Qr u h' bc bs) :
    ∀ (m : Nat) (x4 : Int64) (h : xb_H) (a : Nat), rd_G h0 h rd op md cd nt im N M rc rs rw cb it n vs ν iv a l bc bs → f0 ≤ a → (∀ j, f0 ≤ j → j < a → 124 ≤ (cb j).toInt ∧ (cb j).toInt ≤ 127) → l - a ≤ m → w_Reader_readTypes_L18 Qr Qt (m + 1) rd x1 x3 x4 h bc bs
  | m, x4, h, a, hG, g1, g2, g3 => by
    have hl := hG.al
    unfold w_Reader_readTypes_L18
    refine ⟨fun _ => ⟨hG.krd, hQ _ h a (a - f0) ?_ (by omega) hl.1 g2 hG⟩, fun _ => ⟨hG.krd, rdG_valueType hT hG hby (fun u h' u1 u2 u3 u4 hG' _ v6 _ => ?_)⟩⟩
    · rw [z_sub, hG.iat, hf]
      omega
    · match m, g3 with
      | 0, g3 => omega
      | m + 1, g3 =>
        refine rdG_readTypes_L18 hT hby hf hQ m v6 h' (a + 1) hG' (by omega) (fun j j1 j2 => ?_) (by omega)
        by_cases e : j = a
        · rw [e, ← u3]
          exact ⟨u1, u2⟩
        · exact g2 j j1 (by omega)
theorem rdG_readTypes {Qr : Int32 → xb_H → Nat → Nat → Prop} (hT : rd_T h0 rd op md rc rs Qt) (hG : rd_G h0 h rd op md cd nt im N M rc rs rw cb it n vs ν iv a l bc bs) (hby : ∀ j, -128 ≤ (cb j).toInt ∧ (cb j).toInt ≤ 127)
    (hQ : ∀ (u : Int32) (h' : xb_H) (q t f0 : Nat), a < f0 → u.toInt = t → f0 + t = q → (q : Int) ≤ l → (∀ j, f0 ≤ j → j < q → 124 ≤ (cb j).toInt ∧ (cb j).toInt ≤ 127) → rd_G h0 h' rd op md cd nt im N M rc rs rw cb it n vs ν iv q l bc bs → Qr u h' bc bs) : w_Reader_readTypes rd h bc bs Qr Qt := by
  unfold w_Reader_readTypes
  refine ⟨hG.krd, rdG_count hT hG (fun u h' q q1 q2 hG' _ v4 _ v5 e5 => ⟨(l - q).toNat + 1, ?_⟩)⟩
  exact rdG_readTypes_L18 hT hby (by rw [e5, hG'.iat]) (fun u h' q' t t1 t2 t3 t4 hG2 => hQ u h' q' t q q1 t1 t2 t3 t4 hG2) _ 0 h' q hG' (by omega) (fun j j1 j2 => by omega) (by omega)
end RDM

abbrev W_Work_doTransfer (kT : Nat → ClassId) (ad : Nat → Nat) (rn : Int32) (rc : Nat → Int64) (rv : Nat → Int64) (rm : Nat → Int32) (bc : Nat → Int32) (ocn : Int32) (ofn : Int32) (oc : Nat → Int64) (ofr : Nat → Int32) (oto : Nat → Int32) (osg : Nat → Int32) (ptn : Int32) (pin : Int32) (po : Nat → Int32) (pa : Nat → Int32) (pb : Nat → Int32) (pt : Nat → Int32) (kn : Int32) (kv : Int32) (kp : Nat → Int32) (kl : Nat → Int32) (wn : Int32) (wf : Nat → Int32) (wt : Nat → Int32) (wv : Nat → Int64) (xw : Int32) (xp : Int32) (xr : Int32) (xq : Int32) (xe : Int32) (xh : Int32) (xb : Int32) (cn : Nat → Int32) : va_W := [(ad 1, .inr (0, [.ref (ad 2), .ref (ad 3), .ref (ad 4), .int rn])), (ad 2, .inl (kT 1, 24, .inr (.inl rc))), (ad 3, .inl (kT 1, 24, .inr (.inl rv))), (ad 4, .inl (kT 2, 24, .inl rm)), (ad 5, .inr (1, [.ref (ad 6)])), (ad 6, .inl (kT 3, 4096, .inl bc)), (ad 7, .inr (2, [.ref (ad 1), .ref (ad 8), .ref (ad 9), .ref (ad 10), .ref (ad 11), .int ocn, .int ofn])), (ad 8, .inl (kT 1, 16, .inr (.inl oc))), (ad 9, .inl (kT 0, 16, .inl ofr)), (ad 10, .inl (kT 0, 16, .inl oto)), (ad 11, .inl (kT 2, 16, .inl osg)), (ad 12, .inr (3, [.ref (ad 13), .ref (ad 14), .ref (ad 15), .ref (ad 16), .int ptn, .ref (ad 17), .ref (ad 18), .ref (ad 19), .ref (ad 20), .ref (ad 21), .int pin])), (ad 13, .inl (kT 0, 200, .inl po)), (ad 14, .inl (kT 0, 200, .inl pa)), (ad 15, .inl (kT 0, 200, .inl pb)), (ad 16, .inl (kT 0, 200, .inl pt)), (ad 22, .inr (4, [.ref (ad 23), .ref (ad 24), .int kn, .int kv])), (ad 23, .inl (kT 0, 8, .inl kp)), (ad 24, .inl (kT 0, 8, .inl kl)), (ad 28, .inr (6, [.ref (ad 1), .ref (ad 5), .ref (ad 29), .ref (ad 30), .ref (ad 31), .int wn])), (ad 29, .inl (kT 0, 200, .inl wf)), (ad 30, .inl (kT 0, 200, .inl wt)), (ad 31, .inl (kT 1, 200, .inr (.inl wv))), (ad 32, .inr (7, [.ref (ad 1), .ref (ad 5), .ref (ad 7), .ref (ad 12), .ref (ad 22), .ref (ad 28), .ref (ad 34), .int xw, .int xp, .int xr, .int xq, .int xe, .int xh, .int xb])), (ad 34, .inl (kT 0, 9, .inl cn))]
def wp_Work_doTransfer_216 (rn : Int32) (rc : Nat → Int64) (ocn : Int32) (ofn : Int32) (oc : Nat → Int64) (ofr : Nat → Int32) (oto : Nat → Int32) (osg : Nat → Int32) (ptn : Int32) (pin : Int32) (po : Nat → Int32) (pa : Nat → Int32) (pb : Nat → Int32) (pt : Nat → Int32) (kp : Nat → Int32) (kl : Nat → Int32) (xw : Int32) (xp : Int32) (xr : Int32) (rv : Nat → Int64) (rm : Nat → Int32) (bc : Nat → Int32) (kn : Int32) (kv : Int32) (wn : Int32) (wf : Nat → Int32) (wt : Nat → Int32) (wv : Nat → Int64) (xq : Int32) (xe : Int32) (xh : Int32) (xb : Int32) (cn : Nat → Int32) (y2 : Int32) (y3 : Int32) (y4 : Int64) (y6 : Int64) (y9 : Int32) (post : Int32 → (Nat → Int64) → (Nat → Int32) → (Nat → Int32) → Int32 → Int32 → Int32 → (Nat → Int32) → (Nat → Int32) → (Nat → Int64) → Int32 → Int32 → Int32 → Int32 → (Nat → Int32) → Prop) : Prop := wp_Work_divide rn rc rv rm bc wn wf wt wv xw xp xr xq xe xh xb y2 y4 y6 y3 y9 (fun r_48 rv_40 rm_41 bc_42 wn_43 wf_44 wt_45 wv_46 xq_47 => post r_48 rv_40 rm_41 bc_42 kn kv wn_43 wf_44 wt_45 wv_46 xq_47 xe xh xb cn)
def wp_Work_doTransfer_350 (rn : Int32) (rc : Nat → Int64) (ocn : Int32) (ofn : Int32) (oc : Nat → Int64) (ofr : Nat → Int32) (oto : Nat → Int32) (osg : Nat → Int32) (ptn : Int32) (pin : Int32) (po : Nat → Int32) (pa : Nat → Int32) (pb : Nat → Int32) (pt : Nat → Int32) (kp : Nat → Int32) (kl : Nat → Int32) (xw : Int32) (xp : Int32) (xr : Int32) (rv : Nat → Int64) (rm : Nat → Int32) (bc : Nat → Int32) (kn : Int32) (kv : Int32) (wn : Int32) (wf : Nat → Int32) (wt : Nat → Int32) (wv : Nat → Int64) (xq : Int32) (xe : Int32) (xh : Int32) (xb : Int32) (cn : Nat → Int32) (y2 : Int32) (y3 : Int32) (y4 : Int64) (y6 : Int64) (y9 : Int32) (post : Int32 → (Nat → Int64) → (Nat → Int32) → (Nat → Int32) → Int32 → Int32 → Int32 → (Nat → Int32) → (Nat → Int32) → (Nat → Int64) → Int32 → Int32 → Int32 → Int32 → (Nat → Int32) → Prop) : Prop := wp_Work_result y2 y4 y6 (fun r_70 => wp_Work_write rn rc rv rm bc wn wf wt wv xw xp xr xq xe xh xb y9 y3 r_70 (fun rv_71 rm_72 bc_73 wn_74 wf_75 wt_76 wv_77 xq_78 => post 0 rv_71 rm_72 bc_73 kn kv wn_74 wf_75 wt_76 wv_77 xq_78 xe xh xb cn))
def wp_Work_doTransfer_241 (rn : Int32) (rc : Nat → Int64) (ocn : Int32) (ofn : Int32) (oc : Nat → Int64) (ofr : Nat → Int32) (oto : Nat → Int32) (osg : Nat → Int32) (ptn : Int32) (pin : Int32) (po : Nat → Int32) (pa : Nat → Int32) (pb : Nat → Int32) (pt : Nat → Int32) (kp : Nat → Int32) (kl : Nat → Int32) (xw : Int32) (xp : Int32) (xr : Int32) (rv : Nat → Int64) (rm : Nat → Int32) (bc : Nat → Int32) (kn : Int32) (kv : Int32) (wn : Int32) (wf : Nat → Int32) (wt : Nat → Int32) (wv : Nat → Int64) (xq : Int32) (xe : Int32) (xh : Int32) (xb : Int32) (cn : Nat → Int32) (y3 : Int32) (y4 : Int64) (y6 : Int64) (y9 : Int32) (z0 : Int32) (post : Int32 → (Nat → Int64) → (Nat → Int32) → (Nat → Int32) → Int32 → Int32 → Int32 → (Nat → Int32) → (Nat → Int32) → (Nat → Int64) → Int32 → Int32 → Int32 → Int32 → (Nat → Int32) → Prop) : Prop := wp_Work_load rn rc rv rm bc wn wf wt wv xw xp xr xq xe xh xb cn z0 (y4 + y6) y3 y9 (fun r_89 rv_80 rm_81 bc_82 wn_83 wf_84 wt_85 wv_86 xq_87 cn_88 => post r_89 rv_80 rm_81 bc_82 kn kv wn_83 wf_84 wt_85 wv_86 xq_87 xe xh xb cn_88)
def wp_Work_doTransfer_229 (rn : Int32) (rc : Nat → Int64) (ocn : Int32) (ofn : Int32) (oc : Nat → Int64) (ofr : Nat → Int32) (oto : Nat → Int32) (osg : Nat → Int32) (ptn : Int32) (pin : Int32) (po : Nat → Int32) (pa : Nat → Int32) (pb : Nat → Int32) (pt : Nat → Int32) (kp : Nat → Int32) (kl : Nat → Int32) (xw : Int32) (xp : Int32) (xr : Int32) (rv : Nat → Int64) (rm : Nat → Int32) (bc : Nat → Int32) (kn : Int32) (kv : Int32) (wn : Int32) (wf : Nat → Int32) (wt : Nat → Int32) (wv : Nat → Int64) (xq : Int32) (xe : Int32) (xh : Int32) (xb : Int32) (cn : Nat → Int32) (y2 : Int32) (y3 : Int32) (y4 : Int64) (y6 : Int64) (y9 : Int32) (post : Int32 → (Nat → Int64) → (Nat → Int32) → (Nat → Int32) → Int32 → Int32 → Int32 → (Nat → Int32) → (Nat → Int32) → (Nat → Int64) → Int32 → Int32 → Int32 → Int32 → (Nat → Int32) → Prop) : Prop := (if y2 = 14 then wp_Work_doTransfer_241 rn rc ocn ofn oc ofr oto osg ptn pin po pa pb pt kp kl xw xp xr rv rm bc kn kv wn wf wt wv xq xe xh xb cn y3 y4 y6 y9 1 post else wp_Work_doTransfer_241 rn rc ocn ofn oc ofr oto osg ptn pin po pa pb pt kp kl xw xp xr rv rm bc kn kv wn wf wt wv xq xe xh xb cn y3 y4 y6 y9 0 post)
def wp_Work_doTransfer_253 (rn : Int32) (rc : Nat → Int64) (ocn : Int32) (ofn : Int32) (oc : Nat → Int64) (ofr : Nat → Int32) (oto : Nat → Int32) (osg : Nat → Int32) (ptn : Int32) (pin : Int32) (po : Nat → Int32) (pa : Nat → Int32) (pb : Nat → Int32) (pt : Nat → Int32) (kp : Nat → Int32) (kl : Nat → Int32) (xw : Int32) (xp : Int32) (xr : Int32) (rv : Nat → Int64) (rm : Nat → Int32) (bc : Nat → Int32) (kn : Int32) (kv : Int32) (wn : Int32) (wf : Nat → Int32) (wt : Nat → Int32) (wv : Nat → Int64) (xq : Int32) (xe : Int32) (xh : Int32) (xb : Int32) (cn : Nat → Int32) (y2 : Int32) (y4 : Int64) (y6 : Int64) (post : Int32 → (Nat → Int64) → (Nat → Int32) → (Nat → Int32) → Int32 → Int32 → Int32 → (Nat → Int32) → (Nat → Int32) → (Nat → Int64) → Int32 → Int32 → Int32 → Int32 → (Nat → Int32) → Prop) : Prop := (if y2 = 16 then wp_Work_store rn rc rv rm bc wn wf wt wv xw xp xr xq xe xh xb cn 1 y4 y6 (fun r_69 rv_60 rm_61 bc_62 wn_63 wf_64 wt_65 wv_66 xq_67 cn_68 => post r_69 rv_60 rm_61 bc_62 kn kv wn_63 wf_64 wt_65 wv_66 xq_67 xe xh xb cn_68) else wp_Work_store rn rc rv rm bc wn wf wt wv xw xp xr xq xe xh xb cn 0 y4 y6 (fun r_59 rv_50 rm_51 bc_52 wn_53 wf_54 wt_55 wv_56 xq_57 cn_58 => post r_59 rv_50 rm_51 bc_52 kn kv wn_53 wf_54 wt_55 wv_56 xq_57 xe xh xb cn_58))
def wp_Work_doTransfer_123 (rn : Int32) (rc : Nat → Int64) (ocn : Int32) (ofn : Int32) (oc : Nat → Int64) (ofr : Nat → Int32) (oto : Nat → Int32) (osg : Nat → Int32) (ptn : Int32) (pin : Int32) (po : Nat → Int32) (pa : Nat → Int32) (pb : Nat → Int32) (pt : Nat → Int32) (kp : Nat → Int32) (kl : Nat → Int32) (xw : Int32) (xp : Int32) (xr : Int32) (rv : Nat → Int64) (rm : Nat → Int32) (bc : Nat → Int32) (kn : Int32) (kv : Int32) (wn : Int32) (wf : Nat → Int32) (wt : Nat → Int32) (wv : Nat → Int64) (xq : Int32) (xe : Int32) (xh : Int32) (xb : Int32) (cn : Nat → Int32) (y2 : Int32) (y3 : Int32) (y4 : Int64) (y6 : Int64) (z0 : Int32) (post : Int32 → (Nat → Int64) → (Nat → Int32) → (Nat → Int32) → Int32 → Int32 → Int32 → (Nat → Int32) → (Nat → Int32) → (Nat → Int64) → Int32 → Int32 → Int32 → Int32 → (Nat → Int32) → Prop) : Prop := (if y2 = 4 then wp_Work_doTransfer_216 rn rc ocn ofn oc ofr oto osg ptn pin po pa pb pt kp kl xw xp xr rv rm bc kn kv wn wf wt wv xq xe xh xb cn y2 y3 y4 y6 z0 post else (if y2 = 5 then wp_Work_doTransfer_216 rn rc ocn ofn oc ofr oto osg ptn pin po pa pb pt kp kl xw xp xr rv rm bc kn kv wn wf wt wv xq xe xh xb cn y2 y3 y4 y6 z0 post else (if y2 = 6 then wp_Work_doTransfer_350 rn rc ocn ofn oc ofr oto osg ptn pin po pa pb pt kp kl xw xp xr rv rm bc kn kv wn wf wt wv xq xe xh xb cn y2 y3 y4 y6 z0 post else (if y2 = 7 then wp_Work_doTransfer_350 rn rc ocn ofn oc ofr oto osg ptn pin po pa pb pt kp kl xw xp xr rv rm bc kn kv wn wf wt wv xq xe xh xb cn y2 y3 y4 y6 z0 post else (if y2 = 8 then wp_Work_doTransfer_350 rn rc ocn ofn oc ofr oto osg ptn pin po pa pb pt kp kl xw xp xr rv rm bc kn kv wn wf wt wv xq xe xh xb cn y2 y3 y4 y6 z0 post else (if y2 = 9 then wp_Work_doTransfer_350 rn rc ocn ofn oc ofr oto osg ptn pin po pa pb pt kp kl xw xp xr rv rm bc kn kv wn wf wt wv xq xe xh xb cn y2 y3 y4 y6 z0 post else (if y2 = 10 then wp_Work_doTransfer_350 rn rc ocn ofn oc ofr oto osg ptn pin po pa pb pt kp kl xw xp xr rv rm bc kn kv wn wf wt wv xq xe xh xb cn y2 y3 y4 y6 z0 post else (if y2 = 11 then wp_Work_doTransfer_350 rn rc ocn ofn oc ofr oto osg ptn pin po pa pb pt kp kl xw xp xr rv rm bc kn kv wn wf wt wv xq xe xh xb cn y2 y3 y4 y6 z0 post else (if y2 = 12 then wp_Work_doTransfer_350 rn rc ocn ofn oc ofr oto osg ptn pin po pa pb pt kp kl xw xp xr rv rm bc kn kv wn wf wt wv xq xe xh xb cn y2 y3 y4 y6 z0 post else (if y2 = 13 then wp_Work_doTransfer_229 rn rc ocn ofn oc ofr oto osg ptn pin po pa pb pt kp kl xw xp xr rv rm bc kn kv wn wf wt wv xq xe xh xb cn y2 y3 y4 y6 z0 post else (if y2 = 14 then wp_Work_doTransfer_229 rn rc ocn ofn oc ofr oto osg ptn pin po pa pb pt kp kl xw xp xr rv rm bc kn kv wn wf wt wv xq xe xh xb cn y2 y3 y4 y6 z0 post else (if y2 = 15 then wp_Work_doTransfer_253 rn rc ocn ofn oc ofr oto osg ptn pin po pa pb pt kp kl xw xp xr rv rm bc kn kv wn wf wt wv xq xe xh xb cn y2 y4 y6 post else (if y2 = 16 then wp_Work_doTransfer_253 rn rc ocn ofn oc ofr oto osg ptn pin po pa pb pt kp kl xw xp xr rv rm bc kn kv wn wf wt wv xq xe xh xb cn y2 y4 y6 post else (if y2 = 17 then (if y4 = 0 then post 0 rv rm bc kn kv wn wf wt wv xq 1 xh xb cn else post 0 rv rm bc kn kv wn wf wt wv xq 0 xh xb cn) else (if y2 = 18 then (if y6 = 0 then post 0 rv rm bc kn kv wn wf wt wv xq xe xh xb cn else post (8 + (zq_j_l2i (y4 &&& 7))) rv rm bc kn kv wn wf wt wv xq xe xh xb cn) else (if y2 = 19 then wp_Work_write rn rc rv rm bc wn wf wt wv xw xp xr xq xe xh xb 2 y3 0 (fun rv_17 rm_18 bc_19 wn_20 wf_21 wt_22 wv_23 xq_24 => post 0 rv_17 rm_18 bc_19 kn kv wn_20 wf_21 wt_22 wv_23 xq_24 xe xh xb cn) else (if y2 = 20 then (if kv = 0 then post 5 rv rm bc kn kv wn wf wt wv xq xe xh xb cn else post 0 rv rm bc kn kv wn wf wt wv xq xe xh xb cn) else (if y2 = 21 then post 0 rv rm bc kn kv wn wf wt wv xq xe 1 xb cn else (if y2 = 22 then wp_Work_goBack rn rc rv rm bc kn kv kp kl wn wf wt wv xw xp xr xq xe xh xb (fun r_38 rv_27 rm_28 bc_29 kn_30 kv_31 wn_32 wf_33 wt_34 wv_35 xq_36 xb_37 => post r_38 rv_27 rm_28 bc_29 kn_30 kv_31 wn_32 wf_33 wt_34 wv_35 xq_36 xe xh xb_37 cn) else wp_Work_doTransfer_350 rn rc ocn ofn oc ofr oto osg ptn pin po pa pb pt kp kl xw xp xr rv rm bc kn kv wn wf wt wv xq xe xh xb cn y2 y3 y4 y6 z0 post)))))))))))))))))))
def wp_Work_doTransfer_111 (rn : Int32) (rc : Nat → Int64) (ocn : Int32) (ofn : Int32) (oc : Nat → Int64) (ofr : Nat → Int32) (oto : Nat → Int32) (osg : Nat → Int32) (ptn : Int32) (pin : Int32) (po : Nat → Int32) (pa : Nat → Int32) (pb : Nat → Int32) (pt : Nat → Int32) (kp : Nat → Int32) (kl : Nat → Int32) (xw : Int32) (xp : Int32) (xr : Int32) (rv : Nat → Int64) (rm : Nat → Int32) (bc : Nat → Int32) (kn : Int32) (kv : Int32) (wn : Int32) (wf : Nat → Int32) (wt : Nat → Int32) (wv : Nat → Int64) (xq : Int32) (xe : Int32) (xh : Int32) (xb : Int32) (cn : Nat → Int32) (y2 : Int32) (y3 : Int32) (y4 : Int64) (y6 : Int64) (z0 : Int32) (post : Int32 → (Nat → Int64) → (Nat → Int32) → (Nat → Int32) → Int32 → Int32 → Int32 → (Nat → Int32) → (Nat → Int32) → (Nat → Int64) → Int32 → Int32 → Int32 → Int32 → (Nat → Int32) → Prop) : Prop := (if z0 = 0 then wp_Work_doTransfer_123 rn rc ocn ofn oc ofr oto osg ptn pin po pa pb pt kp kl xw xp xr rv rm bc kn kv wn wf wt wv xq xe xh xb cn y2 y3 y4 y6 0 post else wp_Work_doTransfer_123 rn rc ocn ofn oc ofr oto osg ptn pin po pa pb pt kp kl xw xp xr rv rm bc kn kv wn wf wt wv xq xe xh xb cn y2 y3 y4 y6 1 post)
def wp_Work_doTransfer_106 (rn : Int32) (rc : Nat → Int64) (ocn : Int32) (ofn : Int32) (oc : Nat → Int64) (ofr : Nat → Int32) (oto : Nat → Int32) (osg : Nat → Int32) (ptn : Int32) (pin : Int32) (po : Nat → Int32) (pa : Nat → Int32) (pb : Nat → Int32) (pt : Nat → Int32) (kp : Nat → Int32) (kl : Nat → Int32) (xw : Int32) (xp : Int32) (xr : Int32) (rv : Nat → Int64) (rm : Nat → Int32) (bc : Nat → Int32) (kn : Int32) (kv : Int32) (wn : Int32) (wf : Nat → Int32) (wt : Nat → Int32) (wv : Nat → Int64) (xq : Int32) (xe : Int32) (xh : Int32) (xb : Int32) (cn : Nat → Int32) (y2 : Int32) (y3 : Int32) (y4 : Int64) (y6 : Int64) (post : Int32 → (Nat → Int64) → (Nat → Int32) → (Nat → Int32) → Int32 → Int32 → Int32 → (Nat → Int32) → (Nat → Int32) → (Nat → Int64) → Int32 → Int32 → Int32 → Int32 → (Nat → Int32) → Prop) : Prop := wp_Work_doTransfer_111 rn rc ocn ofn oc ofr oto osg ptn pin po pa pb pt kp kl xw xp xr rv rm bc kn kv wn wf wt wv xq xe xh xb cn y2 y3 y4 y6 1 post
def wp_Work_doTransfer_110 (rn : Int32) (rc : Nat → Int64) (ocn : Int32) (ofn : Int32) (oc : Nat → Int64) (ofr : Nat → Int32) (oto : Nat → Int32) (osg : Nat → Int32) (ptn : Int32) (pin : Int32) (po : Nat → Int32) (pa : Nat → Int32) (pb : Nat → Int32) (pt : Nat → Int32) (kp : Nat → Int32) (kl : Nat → Int32) (xw : Int32) (xp : Int32) (xr : Int32) (rv : Nat → Int64) (rm : Nat → Int32) (bc : Nat → Int32) (kn : Int32) (kv : Int32) (wn : Int32) (wf : Nat → Int32) (wt : Nat → Int32) (wv : Nat → Int64) (xq : Int32) (xe : Int32) (xh : Int32) (xb : Int32) (cn : Nat → Int32) (y2 : Int32) (y3 : Int32) (y4 : Int64) (y6 : Int64) (post : Int32 → (Nat → Int64) → (Nat → Int32) → (Nat → Int32) → Int32 → Int32 → Int32 → (Nat → Int32) → (Nat → Int32) → (Nat → Int64) → Int32 → Int32 → Int32 → Int32 → (Nat → Int32) → Prop) : Prop := wp_Work_doTransfer_111 rn rc ocn ofn oc ofr oto osg ptn pin po pa pb pt kp kl xw xp xr rv rm bc kn kv wn wf wt wv xq xe xh xb cn y2 y3 y4 y6 0 post
def wp_Work_doTransfer (rn : Int32) (rc : Nat → Int64) (rv : Nat → Int64) (rm : Nat → Int32) (bc : Nat → Int32) (ocn : Int32) (ofn : Int32) (oc : Nat → Int64) (ofr : Nat → Int32) (oto : Nat → Int32) (osg : Nat → Int32) (ptn : Int32) (pin : Int32) (po : Nat → Int32) (pa : Nat → Int32) (pb : Nat → Int32) (pt : Nat → Int32) (kn : Int32) (kv : Int32) (kp : Nat → Int32) (kl : Nat → Int32) (wn : Int32) (wf : Nat → Int32) (wt : Nat → Int32) (wv : Nat → Int64) (xw : Int32) (xp : Int32) (xr : Int32) (xq : Int32) (xe : Int32) (xh : Int32) (xb : Int32) (cn : Nat → Int32) (p0 : Int32) (post : Int32 → (Nat → Int64) → (Nat → Int32) → (Nat → Int32) → Int32 → Int32 → Int32 → (Nat → Int32) → (Nat → Int32) → (Nat → Int64) → Int32 → Int32 → Int32 → Int32 → (Nat → Int32) → Prop) : Prop := vp_in p0 200 ∧ vp_in p0 200 ∧ vp_in p0 200 ∧ wp_Operands_read rn rv ocn ofn oc ofr oto osg (pa p0.toNatClampNeg) xw (fun r_4 => vp_in p0 200 ∧ wp_Operands_read rn rv ocn ofn oc ofr oto osg (pb p0.toNatClampNeg) xw (fun r_6 => vp_in p0 200 ∧ wp_Operands_isMarked rn rm ocn ofn (pa p0.toNatClampNeg) (fun r_8 => (if r_8 = 0 then (if (po p0.toNatClampNeg) = 0 then wp_Work_doTransfer_110 rn rc ocn ofn oc ofr oto osg ptn pin po pa pb pt kp kl xw xp xr rv rm bc kn kv wn wf wt wv xq xe xh xb cn (po p0.toNatClampNeg) (pt p0.toNatClampNeg) r_4 r_6 post else vp_in p0 200 ∧ wp_Operands_isMarked rn rm ocn ofn (pb p0.toNatClampNeg) (fun r_12 => (if r_12 = 0 then wp_Work_doTransfer_110 rn rc ocn ofn oc ofr oto osg ptn pin po pa pb pt kp kl xw xp xr rv rm bc kn kv wn wf wt wv xq xe xh xb cn (po p0.toNatClampNeg) (pt p0.toNatClampNeg) r_4 r_6 post else wp_Work_doTransfer_106 rn rc ocn ofn oc ofr oto osg ptn pin po pa pb pt kp kl xw xp xr rv rm bc kn kv wn wf wt wv xq xe xh xb cn (po p0.toNatClampNeg) (pt p0.toNatClampNeg) r_4 r_6 post))) else wp_Work_doTransfer_106 rn rc ocn ofn oc ofr oto osg ptn pin po pa pb pt kp kl xw xp xr rv rm bc kn kv wn wf wt wv xq xe xh xb cn (po p0.toNatClampNeg) (pt p0.toNatClampNeg) r_4 r_6 post))))
set_option maxHeartbeats 4000000 in
set_option maxRecDepth 100000 in
theorem c_Work_doTransfer (l : Launch) (D : va_G) (kT : Nat → ClassId) (ad : Nat → Nat) (rn : Int32) (rc : Nat → Int64) (rv : Nat → Int64) (rm : Nat → Int32) (bc : Nat → Int32) (ocn : Int32) (ofn : Int32) (oc : Nat → Int64) (ofr : Nat → Int32) (oto : Nat → Int32) (osg : Nat → Int32) (ptn : Int32) (pin : Int32) (po : Nat → Int32) (pa : Nat → Int32) (pb : Nat → Int32) (pt : Nat → Int32) (kn : Int32) (kv : Int32) (kp : Nat → Int32) (kl : Nat → Int32) (wn : Int32) (wf : Nat → Int32) (wt : Nat → Int32) (wv : Nat → Int64) (xw : Int32) (xp : Int32) (xr : Int32) (xq : Int32) (xe : Int32) (xh : Int32) (xb : Int32) (cn : Nat → Int32) (p0 : Int32) (post : Int32 → (Nat → Int64) → (Nat → Int32) → (Nat → Int32) → Int32 → Int32 → Int32 → (Nat → Int32) → (Nat → Int32) → (Nat → Int64) → Int32 → Int32 → Int32 → Int32 → (Nat → Int32) → Prop) (h : wp_Work_doTransfer rn rc rv rm bc ocn ofn oc ofr oto osg ptn pin po pa pb pt kn kv kp kl wn wf wt wv xw xp xr xq xe xh xb cn p0 post) : zq_Mi l zy_Work_doTransfer zs_Work_doTransfer ({ frames := 4, cells := 0, slots := 0, locals := 101 }) D kT [.ref (ad 32), .int p0] (W_Work_doTransfer kT ad rn rc rv rm bc ocn ofn oc ofr oto osg ptn pin po pa pb pt kn kv kp kl wn wf wt wv xw xp xr xq xe xh xb cn) (fun r w' => ∃ (rv' : Nat → Int64) (rm' : Nat → Int32) (bc' : Nat → Int32) (kn' : Int32) (kv' : Int32) (wn' : Int32) (wf' : Nat → Int32) (wt' : Nat → Int32) (wv' : Nat → Int64) (xq' : Int32) (xe' : Int32) (xh' : Int32) (xb' : Int32) (cn' : Nat → Int32), w' = (W_Work_doTransfer kT ad rn rc rv' rm' bc' ocn ofn oc ofr oto osg ptn pin po pa pb pt kn' kv' kp kl wn' wf' wt' wv' xw xp xr xq' xe' xh' xb' cn') ∧ post r rv' rm' bc' kn' kv' wn' wf' wt' wv' xq' xe' xh' xb' cn') := by
  refine zq_Mi_of (cc := zb_Work_doTransfer) (maxL := 10) (own := zR_Work) (by decide) rfl rfl (Nat.le_of_ble_eq_true rfl) ?_
  intro p e s m AV below meth c A QQ H locs ls hx hb hml hown ht hE hA hret hP hD hS hl
  have hK := hE.1
  have hl : lv_has ls 10 [(0, .ref (ad 32)), (1, .int p0)] := hl
  have B216 : ∀  (rv : Nat → Int64) (rm : Nat → Int32) (bc : Nat → Int32) (kn : Int32) (kv : Int32) (wn : Int32) (wf : Nat → Int32) (wt : Nat → Int32) (wv : Nat → Int64) (xq : Int32) (xe : Int32) (xh : Int32) (xb : Int32) (cn : Nat → Int32) (y2 : Int32) (y3 : Int32) (y4 : Int64) (y6 : Int64) (y9 : Int32) (H : Heap) (locs : List Loc) (ls : Array Slot), wp_Work_doTransfer_216 rn rc ocn ofn oc ofr oto osg ptn pin po pa pb pt kp kl xw xp xr rv rm bc kn kv wn wf wt wv xq xe xh xb cn y2 y3 y4 y6 y9 post → va_P D vwCl (W_Work_doTransfer kT ad rn rc rv rm bc ocn ofn oc ofr oto osg ptn pin po pa pb pt kn kv kp kl wn wf wt wv xw xp xr xq xe xh xb cn) H → va_D A (W_Work_doTransfer kT ad rn rc rv rm bc ocn ofn oc ofr oto osg ptn pin po pa pb pt kn kv kp kl wn wf wt wv xw xp xr xq xe xh xb cn) → va_S A s.heap H locs → lv_has ls 10 [(0, .ref (ad 32)), (2, .int y2), (3, .int y3), (4, .long y4), (6, .long y6), (9, .int y9)] → W p l e ({ frames := 4, cells := 0, slots := 0, locals := 101 }) s m AV below meth c H locs 0 0 QQ (F0 m 216 ls []) := by
    intro rv rm bc kn kv wn wf wt wv xq xe xh xb cn y2 y3 y4 y6 y9 H locs ls h hP hD hS hl
    refine lv_aload_n hx hb zd_Work_doTransfer_216 rfl (lv_at hl 0 rfl) ?_
    refine lv_iload_n hx hb zd_Work_doTransfer_217 rfl (lv_at hl 1 rfl) ?_
    refine lv_lload hx hb zd_Work_doTransfer_218 (lv_at hl 3 rfl) ?_
    refine lv_lload hx hb zd_Work_doTransfer_220 (lv_at hl 4 rfl) ?_
    refine lv_iload_n hx hb zd_Work_doTransfer_222 rfl (lv_at hl 2 rfl) ?_
    refine lv_iload hx hb zd_Work_doTransfer_223 (lv_at hl 5 rfl) ?_
    refine zq_c_Vi (rest := []) ⟨hx, hb, hml, hown, ht⟩ (c_Work_divide l D kT ad rn rc rv rm bc wn wf wt wv xw xp xr xq xe xh xb y2 y4 y6 y3 y9 _ h) (cwV 5 ht (zq_gV zw_278 zw_279 zw_280 zw_233 zw_281) rfl rfl rfl zh_Work_divide ⟨Nat.le_of_ble_eq_true rfl, Nat.le_of_ble_eq_true rfl⟩) hE hP hD hS hA [0, 1, 2, 3, 4, 5, 19, 20, 21, 22, 23] [6, 7, 8, 9, 10, 11, 12, 13, 14, 15, 16, 17, 18, 24] 25 rfl rfl rfl (by decide) 10 rfl rfl rfl rfl hl.1 (Nat.le_of_ble_eq_true rfl) rfl zd_Work_doTransfer_225 ⟨Nat.zero_le _, Nat.zero_le _⟩ (fun r_48 w1 H locs hw hJ hS => ?_)
    obtain ⟨rv_40, rm_41, bc_42, wn_43, wf_44, wt_45, wv_46, xq_47, rfl, h⟩ := hw
    obtain ⟨hP, hD⟩ := hJ (W_Work_doTransfer kT ad rn rc rv_40 rm_41 bc_42 ocn ofn oc ofr oto osg ptn pin po pa pb pt kn kv kp kl wn_43 wf_44 wt_45 wv_46 xw xp xr xq_47 xe xh xb cn) rfl rfl rfl
    exact hret r_48  _ H locs 228 ls ⟨rv_40, rm_41, bc_42, kn, kv, wn_43, wf_44, wt_45, wv_46, xq_47, xe, xh, xb, cn, rfl, h⟩ hP rfl hS zd_Work_doTransfer_228
  have B350 : ∀  (rv : Nat → Int64) (rm : Nat → Int32) (bc : Nat → Int32) (kn : Int32) (kv : Int32) (wn : Int32) (wf : Nat → Int32) (wt : Nat → Int32) (wv : Nat → Int64) (xq : Int32) (xe : Int32) (xh : Int32) (xb : Int32) (cn : Nat → Int32) (y2 : Int32) (y3 : Int32) (y4 : Int64) (y6 : Int64) (y9 : Int32) (H : Heap) (locs : List Loc) (ls : Array Slot), wp_Work_doTransfer_350 rn rc ocn ofn oc ofr oto osg ptn pin po pa pb pt kp kl xw xp xr rv rm bc kn kv wn wf wt wv xq xe xh xb cn y2 y3 y4 y6 y9 post → va_P D vwCl (W_Work_doTransfer kT ad rn rc rv rm bc ocn ofn oc ofr oto osg ptn pin po pa pb pt kn kv kp kl wn wf wt wv xw xp xr xq xe xh xb cn) H → va_D A (W_Work_doTransfer kT ad rn rc rv rm bc ocn ofn oc ofr oto osg ptn pin po pa pb pt kn kv kp kl wn wf wt wv xw xp xr xq xe xh xb cn) → va_S A s.heap H locs → lv_has ls 10 [(0, .ref (ad 32)), (2, .int y2), (3, .int y3), (4, .long y4), (6, .long y6), (9, .int y9)] → W p l e ({ frames := 4, cells := 0, slots := 0, locals := 101 }) s m AV below meth c H locs 0 0 QQ (F0 m 350 ls []) := by
    intro rv rm bc kn kv wn wf wt wv xq xe xh xb cn y2 y3 y4 y6 y9 H locs ls h hP hD hS hl
    refine lv_aload_n hx hb zd_Work_doTransfer_350 rfl (lv_at hl 0 rfl) ?_
    refine lv_iload hx hb zd_Work_doTransfer_351 (lv_at hl 5 rfl) ?_
    refine lv_iload_n hx hb zd_Work_doTransfer_353 rfl (lv_at hl 2 rfl) ?_
    refine lv_iload_n hx hb zd_Work_doTransfer_354 rfl (lv_at hl 1 rfl) ?_
    refine lv_lload hx hb zd_Work_doTransfer_355 (lv_at hl 3 rfl) ?_
    refine lv_lload hx hb zd_Work_doTransfer_357 (lv_at hl 4 rfl) ?_
    refine zq_c_Sl (rest := [.int y3, .int y9, .ref (ad 32)]) ⟨hx, hb, hml, hown, ht⟩ (c_Work_result l D kT ad y2 y4 y6 _ h) (cwS 3 ht (zq_gS zw_286 zw_287 zw_233 zw_288) rfl rfl rfl zh_Work_result ⟨Nat.le_of_ble_eq_true rfl, Nat.le_of_ble_eq_true rfl⟩) hE hP hD hS hA [] [0, 1, 2, 3, 4, 5, 6, 7, 8, 9, 10, 11, 12, 13, 14, 15, 16, 17, 18, 19, 20, 21, 22, 23, 24] 25 rfl rfl rfl (by decide)  rfl hl.1 (Nat.le_of_ble_eq_true rfl) rfl zd_Work_doTransfer_359 ⟨Nat.zero_le _, Nat.zero_le _⟩ (fun r_70 w1 H locs hw hJ hS => ?_)
    obtain ⟨rfl, h⟩ := hw
    obtain ⟨hP, hD⟩ := hJ (W_Work_doTransfer kT ad rn rc rv rm bc ocn ofn oc ofr oto osg ptn pin po pa pb pt kn kv kp kl wn wf wt wv xw xp xr xq xe xh xb cn) rfl rfl rfl
    refine zq_c_Vv (rest := []) ⟨hx, hb, hml, hown, ht⟩ (c_Work_write l D kT ad rn rc rv rm bc wn wf wt wv xw xp xr xq xe xh xb y9 y3 r_70 _ h) (cwV 3 ht (zq_gV zw_244 zw_245 zw_246 zw_233 zw_247) rfl rfl rfl zh_Work_write ⟨Nat.le_of_ble_eq_true rfl, Nat.le_of_ble_eq_true rfl⟩) hE hP hD hS hA [0, 1, 2, 3, 4, 5, 19, 20, 21, 22, 23] [6, 7, 8, 9, 10, 11, 12, 13, 14, 15, 16, 17, 18, 24] 25 rfl rfl rfl (by decide) 10 rfl rfl rfl rfl hl.1 (Nat.le_of_ble_eq_true rfl) rfl zd_Work_doTransfer_362 ⟨Nat.zero_le _, Nat.zero_le _⟩ (fun w1 H locs hw hJ hS => ?_)
    obtain ⟨rv_71, rm_72, bc_73, wn_74, wf_75, wt_76, wv_77, xq_78, rfl, h⟩ := hw
    obtain ⟨hP, hD⟩ := hJ (W_Work_doTransfer kT ad rn rc rv_71 rm_72 bc_73 ocn ofn oc ofr oto osg ptn pin po pa pb pt kn kv kp kl wn_74 wf_75 wt_76 wv_77 xw xp xr xq_78 xe xh xb cn) rfl rfl rfl
    refine lv_iconst (v := 0) hx hb zd_Work_doTransfer_365 (by decide) ?_
    exact hret 0  _ H locs 366 ls ⟨rv_71, rm_72, bc_73, kn, kv, wn_74, wf_75, wt_76, wv_77, xq_78, xe, xh, xb, cn, rfl, h⟩ hP rfl hS zd_Work_doTransfer_366
  have B241 : ∀  (rv : Nat → Int64) (rm : Nat → Int32) (bc : Nat → Int32) (kn : Int32) (kv : Int32) (wn : Int32) (wf : Nat → Int32) (wt : Nat → Int32) (wv : Nat → Int64) (xq : Int32) (xe : Int32) (xh : Int32) (xb : Int32) (cn : Nat → Int32) (y3 : Int32) (y4 : Int64) (y6 : Int64) (y9 : Int32) (z0 : Int32) (H : Heap) (locs : List Loc) (ls : Array Slot), wp_Work_doTransfer_241 rn rc ocn ofn oc ofr oto osg ptn pin po pa pb pt kp kl xw xp xr rv rm bc kn kv wn wf wt wv xq xe xh xb cn y3 y4 y6 y9 z0 post → va_P D vwCl (W_Work_doTransfer kT ad rn rc rv rm bc ocn ofn oc ofr oto osg ptn pin po pa pb pt kn kv kp kl wn wf wt wv xw xp xr xq xe xh xb cn) H → va_D A (W_Work_doTransfer kT ad rn rc rv rm bc ocn ofn oc ofr oto osg ptn pin po pa pb pt kn kv kp kl wn wf wt wv xw xp xr xq xe xh xb cn) → va_S A s.heap H locs → lv_has ls 10 [(3, .int y3), (4, .long y4), (6, .long y6), (9, .int y9)] → W p l e ({ frames := 4, cells := 0, slots := 0, locals := 101 }) s m AV below meth c H locs 0 0 QQ (F0 m 241 ls [.int z0, .ref (ad 32)]) := by
    intro rv rm bc kn kv wn wf wt wv xq xe xh xb cn y3 y4 y6 y9 z0 H locs ls h hP hD hS hl
    refine lv_lload hx hb zd_Work_doTransfer_241 (lv_at hl 1 rfl) ?_
    refine lv_lload hx hb zd_Work_doTransfer_243 (lv_at hl 2 rfl) ?_
    refine lv_ladd hx hb zd_Work_doTransfer_245 ?_
    refine lv_iload_n hx hb zd_Work_doTransfer_246 rfl (lv_at hl 0 rfl) ?_
    refine lv_iload hx hb zd_Work_doTransfer_247 (lv_at hl 3 rfl) ?_
    refine zq_c_Vi (rest := []) ⟨hx, hb, hml, hown, ht⟩ (c_Work_load l D kT ad rn rc rv rm bc wn wf wt wv xw xp xr xq xe xh xb cn z0 (y4 + y6) y3 y9 _ h) (cwV 4 ht (zq_gV zw_289 zw_290 zw_291 zw_233 zw_292) rfl rfl rfl zh_Work_load ⟨Nat.le_of_ble_eq_true rfl, Nat.le_of_ble_eq_true rfl⟩) hE hP hD hS hA [0, 1, 2, 3, 4, 5, 19, 20, 21, 22, 23, 24] [6, 7, 8, 9, 10, 11, 12, 13, 14, 15, 16, 17, 18] 25 rfl rfl rfl (by decide) 10 rfl rfl rfl rfl hl.1 (Nat.le_of_ble_eq_true rfl) rfl zd_Work_doTransfer_249 ⟨Nat.zero_le _, Nat.zero_le _⟩ (fun r_89 w1 H locs hw hJ hS => ?_)
    obtain ⟨rv_80, rm_81, bc_82, wn_83, wf_84, wt_85, wv_86, xq_87, cn_88, rfl, h⟩ := hw
    obtain ⟨hP, hD⟩ := hJ (W_Work_doTransfer kT ad rn rc rv_80 rm_81 bc_82 ocn ofn oc ofr oto osg ptn pin po pa pb pt kn kv kp kl wn_83 wf_84 wt_85 wv_86 xw xp xr xq_87 xe xh xb cn_88) rfl rfl rfl
    exact hret r_89  _ H locs 252 ls ⟨rv_80, rm_81, bc_82, kn, kv, wn_83, wf_84, wt_85, wv_86, xq_87, xe, xh, xb, cn_88, rfl, h⟩ hP rfl hS zd_Work_doTransfer_252
  have B229 : ∀  (rv : Nat → Int64) (rm : Nat → Int32) (bc : Nat → Int32) (kn : Int32) (kv : Int32) (wn : Int32) (wf : Nat → Int32) (wt : Nat → Int32) (wv : Nat → Int64) (xq : Int32) (xe : Int32) (xh : Int32) (xb : Int32) (cn : Nat → Int32) (y2 : Int32) (y3 : Int32) (y4 : Int64) (y6 : Int64) (y9 : Int32) (H : Heap) (locs : List Loc) (ls : Array Slot), wp_Work_doTransfer_229 rn rc ocn ofn oc ofr oto osg ptn pin po pa pb pt kp kl xw xp xr rv rm bc kn kv wn wf wt wv xq xe xh xb cn y2 y3 y4 y6 y9 post → va_P D vwCl (W_Work_doTransfer kT ad rn rc rv rm bc ocn ofn oc ofr oto osg ptn pin po pa pb pt kn kv kp kl wn wf wt wv xw xp xr xq xe xh xb cn) H → va_D A (W_Work_doTransfer kT ad rn rc rv rm bc ocn ofn oc ofr oto osg ptn pin po pa pb pt kn kv kp kl wn wf wt wv xw xp xr xq xe xh xb cn) → va_S A s.heap H locs → lv_has ls 10 [(0, .ref (ad 32)), (2, .int y2), (3, .int y3), (4, .long y4), (6, .long y6), (9, .int y9)] → W p l e ({ frames := 4, cells := 0, slots := 0, locals := 101 }) s m AV below meth c H locs 0 0 QQ (F0 m 229 ls []) := by
    intro rv rm bc kn kv wn wf wt wv xq xe xh xb cn y2 y3 y4 y6 y9 H locs ls h hP hD hS hl
    refine lv_aload_n hx hb zd_Work_doTransfer_229 rfl (lv_at hl 0 rfl) ?_
    refine lv_iload_n hx hb zd_Work_doTransfer_230 rfl (lv_at hl 1 rfl) ?_
    refine lv_bipush (v := 14) hx hb zd_Work_doTransfer_231 (by decide) ?_
    refine lv_icmp_ne (tgt := 240) hx hb zd_Work_doTransfer_233 (by decide) (fun c_39 => ?_) (fun c_39 => ?_)
    · have h := zq_if c_39 h
      refine lv_iconst (v := 0) hx hb zd_Work_doTransfer_240 (by decide) ?_
      exact B241 rv rm bc kn kv wn wf wt wv xq xe xh xb cn y3 y4 y6 y9 0 H locs ls h hP hD hS (lv_sub hl [2, 3, 4, 5] rfl)
    · have h := zq_it c_39 h
      refine lv_iconst (v := 1) hx hb zd_Work_doTransfer_236 (by decide) ?_
      refine lv_goto (tgt := 241) hx hb zd_Work_doTransfer_237 (by decide) ?_
      exact B241 rv rm bc kn kv wn wf wt wv xq xe xh xb cn y3 y4 y6 y9 1 H locs ls h hP hD hS (lv_sub hl [2, 3, 4, 5] rfl)
  have B253 : ∀  (rv : Nat → Int64) (rm : Nat → Int32) (bc : Nat → Int32) (kn : Int32) (kv : Int32) (wn : Int32) (wf : Nat → Int32) (wt : Nat → Int32) (wv : Nat → Int64) (xq : Int32) (xe : Int32) (xh : Int32) (xb : Int32) (cn : Nat → Int32) (y2 : Int32) (y4 : Int64) (y6 : Int64) (H : Heap) (locs : List Loc) (ls : Array Slot), wp_Work_doTransfer_253 rn rc ocn ofn oc ofr oto osg ptn pin po pa pb pt kp kl xw xp xr rv rm bc kn kv wn wf wt wv xq xe xh xb cn y2 y4 y6 post → va_P D vwCl (W_Work_doTransfer kT ad rn rc rv rm bc ocn ofn oc ofr oto osg ptn pin po pa pb pt kn kv kp kl wn wf wt wv xw xp xr xq xe xh xb cn) H → va_D A (W_Work_doTransfer kT ad rn rc rv rm bc ocn ofn oc ofr oto osg ptn pin po pa pb pt kn kv kp kl wn wf wt wv xw xp xr xq xe xh xb cn) → va_S A s.heap H locs → lv_has ls 10 [(0, .ref (ad 32)), (2, .int y2), (4, .long y4), (6, .long y6)] → W p l e ({ frames := 4, cells := 0, slots := 0, locals := 101 }) s m AV below meth c H locs 0 0 QQ (F0 m 253 ls []) := by
    intro rv rm bc kn kv wn wf wt wv xq xe xh xb cn y2 y4 y6 H locs ls h hP hD hS hl
    refine lv_aload_n hx hb zd_Work_doTransfer_253 rfl (lv_at hl 0 rfl) ?_
    refine lv_iload_n hx hb zd_Work_doTransfer_254 rfl (lv_at hl 1 rfl) ?_
    refine lv_bipush (v := 16) hx hb zd_Work_doTransfer_255 (by decide) ?_
    refine lv_icmp_ne (tgt := 264) hx hb zd_Work_doTransfer_257 (by decide) (fun c_49 => ?_) (fun c_49 => ?_)
    · have h := zq_if c_49 h
      refine lv_iconst (v := 0) hx hb zd_Work_doTransfer_264 (by decide) ?_
      refine lv_lload hx hb zd_Work_doTransfer_265 (lv_at hl 2 rfl) ?_
      refine lv_lload hx hb zd_Work_doTransfer_267 (lv_at hl 3 rfl) ?_
      refine zq_c_Vi (rest := []) ⟨hx, hb, hml, hown, ht⟩ (c_Work_store l D kT ad rn rc rv rm bc wn wf wt wv xw xp xr xq xe xh xb cn 0 y4 y6 _ h) (cwV 3 ht (zq_gV zw_282 zw_283 zw_284 zw_233 zw_285) rfl rfl rfl zh_Work_store ⟨Nat.le_of_ble_eq_true rfl, Nat.le_of_ble_eq_true rfl⟩) hE hP hD hS hA [0, 1, 2, 3, 4, 5, 19, 20, 21, 22, 23, 24] [6, 7, 8, 9, 10, 11, 12, 13, 14, 15, 16, 17, 18] 25 rfl rfl rfl (by decide) 10 rfl rfl rfl rfl hl.1 (Nat.le_of_ble_eq_true rfl) rfl zd_Work_doTransfer_269 ⟨Nat.zero_le _, Nat.zero_le _⟩ (fun r_59 w1 H locs hw hJ hS => ?_)
      obtain ⟨rv_50, rm_51, bc_52, wn_53, wf_54, wt_55, wv_56, xq_57, cn_58, rfl, h⟩ := hw
      obtain ⟨hP, hD⟩ := hJ (W_Work_doTransfer kT ad rn rc rv_50 rm_51 bc_52 ocn ofn oc ofr oto osg ptn pin po pa pb pt kn kv kp kl wn_53 wf_54 wt_55 wv_56 xw xp xr xq_57 xe xh xb cn_58) rfl rfl rfl
      exact hret r_59  _ H locs 272 ls ⟨rv_50, rm_51, bc_52, kn, kv, wn_53, wf_54, wt_55, wv_56, xq_57, xe, xh, xb, cn_58, rfl, h⟩ hP rfl hS zd_Work_doTransfer_272
    · have h := zq_it c_49 h
      refine lv_iconst (v := 1) hx hb zd_Work_doTransfer_260 (by decide) ?_
      refine lv_goto (tgt := 265) hx hb zd_Work_doTransfer_261 (by decide) ?_
      refine lv_lload hx hb zd_Work_doTransfer_265 (lv_at hl 2 rfl) ?_
      refine lv_lload hx hb zd_Work_doTransfer_267 (lv_at hl 3 rfl) ?_
      refine zq_c_Vi (rest := []) ⟨hx, hb, hml, hown, ht⟩ (c_Work_store l D kT ad rn rc rv rm bc wn wf wt wv xw xp xr xq xe xh xb cn 1 y4 y6 _ h) (cwV 3 ht (zq_gV zw_282 zw_283 zw_284 zw_233 zw_285) rfl rfl rfl zh_Work_store ⟨Nat.le_of_ble_eq_true rfl, Nat.le_of_ble_eq_true rfl⟩) hE hP hD hS hA [0, 1, 2, 3, 4, 5, 19, 20, 21, 22, 23, 24] [6, 7, 8, 9, 10, 11, 12, 13, 14, 15, 16, 17, 18] 25 rfl rfl rfl (by decide) 10 rfl rfl rfl rfl hl.1 (Nat.le_of_ble_eq_true rfl) rfl zd_Work_doTransfer_269 ⟨Nat.zero_le _, Nat.zero_le _⟩ (fun r_69 w1 H locs hw hJ hS => ?_)
      obtain ⟨rv_60, rm_61, bc_62, wn_63, wf_64, wt_65, wv_66, xq_67, cn_68, rfl, h⟩ := hw
      obtain ⟨hP, hD⟩ := hJ (W_Work_doTransfer kT ad rn rc rv_60 rm_61 bc_62 ocn ofn oc ofr oto osg ptn pin po pa pb pt kn kv kp kl wn_63 wf_64 wt_65 wv_66 xw xp xr xq_67 xe xh xb cn_68) rfl rfl rfl
      exact hret r_69  _ H locs 272 ls ⟨rv_60, rm_61, bc_62, kn, kv, wn_63, wf_64, wt_65, wv_66, xq_67, xe, xh, xb, cn_68, rfl, h⟩ hP rfl hS zd_Work_doTransfer_272
  have B123 : ∀  (rv : Nat → Int64) (rm : Nat → Int32) (bc : Nat → Int32) (kn : Int32) (kv : Int32) (wn : Int32) (wf : Nat → Int32) (wt : Nat → Int32) (wv : Nat → Int64) (xq : Int32) (xe : Int32) (xh : Int32) (xb : Int32) (cn : Nat → Int32) (y2 : Int32) (y3 : Int32) (y4 : Int64) (y6 : Int64) (z0 : Int32) (H : Heap) (locs : List Loc) (ls : Array Slot), wp_Work_doTransfer_123 rn rc ocn ofn oc ofr oto osg ptn pin po pa pb pt kp kl xw xp xr rv rm bc kn kv wn wf wt wv xq xe xh xb cn y2 y3 y4 y6 z0 post → va_P D vwCl (W_Work_doTransfer kT ad rn rc rv rm bc ocn ofn oc ofr oto osg ptn pin po pa pb pt kn kv kp kl wn wf wt wv xw xp xr xq xe xh xb cn) H → va_D A (W_Work_doTransfer kT ad rn rc rv rm bc ocn ofn oc ofr oto osg ptn pin po pa pb pt kn kv kp kl wn wf wt wv xw xp xr xq xe xh xb cn) → va_S A s.heap H locs → lv_has ls 10 [(0, .ref (ad 32)), (2, .int y2), (3, .int y3), (4, .long y4), (6, .long y6)] → W p l e ({ frames := 4, cells := 0, slots := 0, locals := 101 }) s m AV below meth c H locs 0 0 QQ (F0 m 123 ls [.int z0]) := by
    intro rv rm bc kn kv wn wf wt wv xq xe xh xb cn y2 y3 y4 y6 z0 H locs ls h hP hD hS hl
    refine lv_istore (lv' := [(9, .int z0), (0, .ref (ad 32)), (2, .int y2), (3, .int y3), (4, .long y4), (6, .long y6)]) hx hb zd_Work_doTransfer_123 hl (by decide) rfl (fun ls hl => ?_)
    refine lv_iload_n hx hb zd_Work_doTransfer_125 rfl (lv_at hl 2 rfl) ?_
    by_cases k0 : y2 = 4
    · have h := zq_it k0 h
      refine lv_tableIn (off := 90) (tgt := 216) hx hb zd_Work_doTransfer_126 (by rw [k0]; decide) (by rw [k0]; decide) (by rw [k0]; rfl) (by decide) ?_
      exact B216 rv rm bc kn kv wn wf wt wv xq xe xh xb cn y2 y3 y4 y6 z0 H locs ls h hP hD hS (lv_sub hl [1, 2, 3, 4, 5, 0] rfl)
    · have h := zq_if k0 h
      by_cases k1 : y2 = 5
      · have h := zq_it k1 h
        refine lv_tableIn (off := 90) (tgt := 216) hx hb zd_Work_doTransfer_126 (by rw [k1]; decide) (by rw [k1]; decide) (by rw [k1]; rfl) (by decide) ?_
        exact B216 rv rm bc kn kv wn wf wt wv xq xe xh xb cn y2 y3 y4 y6 z0 H locs ls h hP hD hS (lv_sub hl [1, 2, 3, 4, 5, 0] rfl)
      · have h := zq_if k1 h
        by_cases k2 : y2 = 6
        · have h := zq_it k2 h
          refine lv_tableIn (off := 224) (tgt := 350) hx hb zd_Work_doTransfer_126 (by rw [k2]; decide) (by rw [k2]; decide) (by rw [k2]; rfl) (by decide) ?_
          exact B350 rv rm bc kn kv wn wf wt wv xq xe xh xb cn y2 y3 y4 y6 z0 H locs ls h hP hD hS (lv_sub hl [1, 2, 3, 4, 5, 0] rfl)
        · have h := zq_if k2 h
          by_cases k3 : y2 = 7
          · have h := zq_it k3 h
            refine lv_tableIn (off := 224) (tgt := 350) hx hb zd_Work_doTransfer_126 (by rw [k3]; decide) (by rw [k3]; decide) (by rw [k3]; rfl) (by decide) ?_
            exact B350 rv rm bc kn kv wn wf wt wv xq xe xh xb cn y2 y3 y4 y6 z0 H locs ls h hP hD hS (lv_sub hl [1, 2, 3, 4, 5, 0] rfl)
          · have h := zq_if k3 h
            by_cases k4 : y2 = 8
            · have h := zq_it k4 h
              refine lv_tableIn (off := 224) (tgt := 350) hx hb zd_Work_doTransfer_126 (by rw [k4]; decide) (by rw [k4]; decide) (by rw [k4]; rfl) (by decide) ?_
              exact B350 rv rm bc kn kv wn wf wt wv xq xe xh xb cn y2 y3 y4 y6 z0 H locs ls h hP hD hS (lv_sub hl [1, 2, 3, 4, 5, 0] rfl)
            · have h := zq_if k4 h
              by_cases k5 : y2 = 9
              · have h := zq_it k5 h
                refine lv_tableIn (off := 224) (tgt := 350) hx hb zd_Work_doTransfer_126 (by rw [k5]; decide) (by rw [k5]; decide) (by rw [k5]; rfl) (by decide) ?_
                exact B350 rv rm bc kn kv wn wf wt wv xq xe xh xb cn y2 y3 y4 y6 z0 H locs ls h hP hD hS (lv_sub hl [1, 2, 3, 4, 5, 0] rfl)
              · have h := zq_if k5 h
                by_cases k6 : y2 = 10
                · have h := zq_it k6 h
                  refine lv_tableIn (off := 224) (tgt := 350) hx hb zd_Work_doTransfer_126 (by rw [k6]; decide) (by rw [k6]; decide) (by rw [k6]; rfl) (by decide) ?_
                  exact B350 rv rm bc kn kv wn wf wt wv xq xe xh xb cn y2 y3 y4 y6 z0 H locs ls h hP hD hS (lv_sub hl [1, 2, 3, 4, 5, 0] rfl)
                · have h := zq_if k6 h
                  by_cases k7 : y2 = 11
                  · have h := zq_it k7 h
                    refine lv_tableIn (off := 224) (tgt := 350) hx hb zd_Work_doTransfer_126 (by rw [k7]; decide) (by rw [k7]; decide) (by rw [k7]; rfl) (by decide) ?_
                    exact B350 rv rm bc kn kv wn wf wt wv xq xe xh xb cn y2 y3 y4 y6 z0 H locs ls h hP hD hS (lv_sub hl [1, 2, 3, 4, 5, 0] rfl)
                  · have h := zq_if k7 h
                    by_cases k8 : y2 = 12
                    · have h := zq_it k8 h
                      refine lv_tableIn (off := 224) (tgt := 350) hx hb zd_Work_doTransfer_126 (by rw [k8]; decide) (by rw [k8]; decide) (by rw [k8]; rfl) (by decide) ?_
                      exact B350 rv rm bc kn kv wn wf wt wv xq xe xh xb cn y2 y3 y4 y6 z0 H locs ls h hP hD hS (lv_sub hl [1, 2, 3, 4, 5, 0] rfl)
                    · have h := zq_if k8 h
                      by_cases k9 : y2 = 13
                      · have h := zq_it k9 h
                        refine lv_tableIn (off := 103) (tgt := 229) hx hb zd_Work_doTransfer_126 (by rw [k9]; decide) (by rw [k9]; decide) (by rw [k9]; rfl) (by decide) ?_
                        exact B229 rv rm bc kn kv wn wf wt wv xq xe xh xb cn y2 y3 y4 y6 z0 H locs ls h hP hD hS (lv_sub hl [1, 2, 3, 4, 5, 0] rfl)
                      · have h := zq_if k9 h
                        by_cases k10 : y2 = 14
                        · have h := zq_it k10 h
                          refine lv_tableIn (off := 103) (tgt := 229) hx hb zd_Work_doTransfer_126 (by rw [k10]; decide) (by rw [k10]; decide) (by rw [k10]; rfl) (by decide) ?_
                          exact B229 rv rm bc kn kv wn wf wt wv xq xe xh xb cn y2 y3 y4 y6 z0 H locs ls h hP hD hS (lv_sub hl [1, 2, 3, 4, 5, 0] rfl)
                        · have h := zq_if k10 h
                          by_cases k11 : y2 = 15
                          · have h := zq_it k11 h
                            refine lv_tableIn (off := 127) (tgt := 253) hx hb zd_Work_doTransfer_126 (by rw [k11]; decide) (by rw [k11]; decide) (by rw [k11]; rfl) (by decide) ?_
                            exact B253 rv rm bc kn kv wn wf wt wv xq xe xh xb cn y2 y4 y6 H locs ls h hP hD hS (lv_sub hl [1, 2, 4, 5] rfl)
                          · have h := zq_if k11 h
                            by_cases k12 : y2 = 16
                            · have h := zq_it k12 h
                              refine lv_tableIn (off := 127) (tgt := 253) hx hb zd_Work_doTransfer_126 (by rw [k12]; decide) (by rw [k12]; decide) (by rw [k12]; rfl) (by decide) ?_
                              exact B253 rv rm bc kn kv wn wf wt wv xq xe xh xb cn y2 y4 y6 H locs ls h hP hD hS (lv_sub hl [1, 2, 4, 5] rfl)
                            · have h := zq_if k12 h
                              by_cases k13 : y2 = 17
                              · have h := zq_it k13 h
                                refine lv_tableIn (off := 147) (tgt := 273) hx hb zd_Work_doTransfer_126 (by rw [k13]; decide) (by rw [k13]; decide) (by rw [k13]; rfl) (by decide) ?_
                                refine lv_aload_n hx hb zd_Work_doTransfer_273 rfl (lv_at hl 1 rfl) ?_
                                refine lv_lload hx hb zd_Work_doTransfer_274 (lv_at hl 4 rfl) ?_
                                refine lv_lconst (v := 0) hx hb zd_Work_doTransfer_276 (by decide) ?_
                                refine W.lcmp hx hb zd_Work_doTransfer_277 ?_
                                refine lv_if_ne (tgt := 285) hx hb zd_Work_doTransfer_278 (by decide) (fun c_15 => ?_) (fun c_15 => ?_)
                                · have h := zq_if (fun z => c_15 (zq_lc_eq.mpr z)) h
                                  refine lv_iconst (v := 0) hx hb zd_Work_doTransfer_285 (by decide) ?_
                                  refine va_put (D := D) (ci := 7) (v := .int 0) (ty := .boolean) (C := zR_Work) (T := zF_Work) (N := 14) hx hb ht zi_Work zt_Work zt_Work_ok zn_Work hown hK hP hD hS 23 rfl rfl 11 (by decide) (ht _ zw_222) (fun _ h9 => h9) rfl (by decide +kernel) rfl rfl (Nat.le_of_ble_eq_true rfl) zd_Work_doTransfer_286 (fun H locs hP hD hS => ?_)
                                  have hP : va_P D vwCl (W_Work_doTransfer kT ad rn rc rv rm bc ocn ofn oc ofr oto osg ptn pin po pa pb pt kn kv kp kl wn wf wt wv xw xp xr xq 0 xh xb cn) H := hP
                                  have hD : va_D A (W_Work_doTransfer kT ad rn rc rv rm bc ocn ofn oc ofr oto osg ptn pin po pa pb pt kn kv kp kl wn wf wt wv xw xp xr xq 0 xh xb cn) := hD
                                  refine lv_iconst (v := 0) hx hb zd_Work_doTransfer_289 (by decide) ?_
                                  exact hret 0  _ H locs 290 ls ⟨rv, rm, bc, kn, kv, wn, wf, wt, wv, xq, 0, xh, xb, cn, rfl, h⟩ hP rfl hS zd_Work_doTransfer_290
                                · have h := zq_it (zq_lc_eq.mp c_15) h
                                  refine lv_iconst (v := 1) hx hb zd_Work_doTransfer_281 (by decide) ?_
                                  refine lv_goto (tgt := 286) hx hb zd_Work_doTransfer_282 (by decide) ?_
                                  refine va_put (D := D) (ci := 7) (v := .int 1) (ty := .boolean) (C := zR_Work) (T := zF_Work) (N := 14) hx hb ht zi_Work zt_Work zt_Work_ok zn_Work hown hK hP hD hS 23 rfl rfl 11 (by decide) (ht _ zw_222) (fun _ h9 => h9) rfl (by decide +kernel) rfl rfl (Nat.le_of_ble_eq_true rfl) zd_Work_doTransfer_286 (fun H locs hP hD hS => ?_)
                                  have hP : va_P D vwCl (W_Work_doTransfer kT ad rn rc rv rm bc ocn ofn oc ofr oto osg ptn pin po pa pb pt kn kv kp kl wn wf wt wv xw xp xr xq 1 xh xb cn) H := hP
                                  have hD : va_D A (W_Work_doTransfer kT ad rn rc rv rm bc ocn ofn oc ofr oto osg ptn pin po pa pb pt kn kv kp kl wn wf wt wv xw xp xr xq 1 xh xb cn) := hD
                                  refine lv_iconst (v := 0) hx hb zd_Work_doTransfer_289 (by decide) ?_
                                  exact hret 0  _ H locs 290 ls ⟨rv, rm, bc, kn, kv, wn, wf, wt, wv, xq, 1, xh, xb, cn, rfl, h⟩ hP rfl hS zd_Work_doTransfer_290
                              · have h := zq_if k13 h
                                by_cases k14 : y2 = 18
                                · have h := zq_it k14 h
                                  refine lv_tableIn (off := 165) (tgt := 291) hx hb zd_Work_doTransfer_126 (by rw [k14]; decide) (by rw [k14]; decide) (by rw [k14]; rfl) (by decide) ?_
                                  refine lv_lload hx hb zd_Work_doTransfer_291 (lv_at hl 5 rfl) ?_
                                  refine lv_lconst (v := 0) hx hb zd_Work_doTransfer_293 (by decide) ?_
                                  refine W.lcmp hx hb zd_Work_doTransfer_294 ?_
                                  refine lv_if_ne (tgt := 302) hx hb zd_Work_doTransfer_295 (by decide) (fun c_16 => ?_) (fun c_16 => ?_)
                                  · have h := zq_if (fun z => c_16 (zq_lc_eq.mpr z)) h
                                    refine lv_bipush (v := 8) hx hb zd_Work_doTransfer_302 (by decide) ?_
                                    refine lv_lload hx hb zd_Work_doTransfer_304 (lv_at hl 4 rfl) ?_
                                    refine W.ldc2 (v := 7) hx hb hown (ht _ zw_273) rfl zd_Work_doTransfer_306 ?_
                                    refine W.eq (g2 := F0 m 309 ls [.long 7, .long y4, .int 8]) rfl ?_
                                    refine lv_land hx hb zd_Work_doTransfer_309 ?_
                                    refine lv_l2i (v := (zq_j_l2i (y4 &&& 7))) hx hb zd_Work_doTransfer_310 rfl ?_
                                    refine lv_iadd hx hb zd_Work_doTransfer_311 ?_
                                    exact hret (8 + (zq_j_l2i (y4 &&& 7)))  _ H locs 312 ls ⟨rv, rm, bc, kn, kv, wn, wf, wt, wv, xq, xe, xh, xb, cn, rfl, h⟩ hP rfl hS zd_Work_doTransfer_312
                                  · have h := zq_it (zq_lc_eq.mp c_16) h
                                    refine lv_iconst (v := 0) hx hb zd_Work_doTransfer_298 (by decide) ?_
                                    refine lv_goto (tgt := 312) hx hb zd_Work_doTransfer_299 (by decide) ?_
                                    exact hret 0  _ H locs 312 ls ⟨rv, rm, bc, kn, kv, wn, wf, wt, wv, xq, xe, xh, xb, cn, rfl, h⟩ hP rfl hS zd_Work_doTransfer_312
                                · have h := zq_if k14 h
                                  by_cases k15 : y2 = 19
                                  · have h := zq_it k15 h
                                    refine lv_tableIn (off := 187) (tgt := 313) hx hb zd_Work_doTransfer_126 (by rw [k15]; decide) (by rw [k15]; decide) (by rw [k15]; rfl) (by decide) ?_
                                    refine lv_aload_n hx hb zd_Work_doTransfer_313 rfl (lv_at hl 1 rfl) ?_
                                    refine lv_iconst (v := 2) hx hb zd_Work_doTransfer_314 (by decide) ?_
                                    refine lv_iload_n hx hb zd_Work_doTransfer_315 rfl (lv_at hl 3 rfl) ?_
                                    refine lv_lconst (v := 0) hx hb zd_Work_doTransfer_316 (by decide) ?_
                                    refine zq_c_Vv (rest := []) ⟨hx, hb, hml, hown, ht⟩ (c_Work_write l D kT ad rn rc rv rm bc wn wf wt wv xw xp xr xq xe xh xb 2 y3 0 _ h) (cwV 3 ht (zq_gV zw_244 zw_245 zw_246 zw_233 zw_247) rfl rfl rfl zh_Work_write ⟨Nat.le_of_ble_eq_true rfl, Nat.le_of_ble_eq_true rfl⟩) hE hP hD hS hA [0, 1, 2, 3, 4, 5, 19, 20, 21, 22, 23] [6, 7, 8, 9, 10, 11, 12, 13, 14, 15, 16, 17, 18, 24] 25 rfl rfl rfl (by decide) 10 rfl rfl rfl rfl hl.1 (Nat.le_of_ble_eq_true rfl) rfl zd_Work_doTransfer_317 ⟨Nat.zero_le _, Nat.zero_le _⟩ (fun w1 H locs hw hJ hS => ?_)
                                    obtain ⟨rv_17, rm_18, bc_19, wn_20, wf_21, wt_22, wv_23, xq_24, rfl, h⟩ := hw
                                    obtain ⟨hP, hD⟩ := hJ (W_Work_doTransfer kT ad rn rc rv_17 rm_18 bc_19 ocn ofn oc ofr oto osg ptn pin po pa pb pt kn kv kp kl wn_20 wf_21 wt_22 wv_23 xw xp xr xq_24 xe xh xb cn) rfl rfl rfl
                                    refine lv_iconst (v := 0) hx hb zd_Work_doTransfer_320 (by decide) ?_
                                    exact hret 0  _ H locs 321 ls ⟨rv_17, rm_18, bc_19, kn, kv, wn_20, wf_21, wt_22, wv_23, xq_24, xe, xh, xb, cn, rfl, h⟩ hP rfl hS zd_Work_doTransfer_321
                                  · have h := zq_if k15 h
                                    by_cases k16 : y2 = 20
                                    · have h := zq_it k16 h
                                      refine lv_tableIn (off := 196) (tgt := 322) hx hb zd_Work_doTransfer_126 (by rw [k16]; decide) (by rw [k16]; decide) (by rw [k16]; rfl) (by decide) ?_
                                      refine lv_aload_n hx hb zd_Work_doTransfer_322 rfl (lv_at hl 1 rfl) ?_
                                      refine va_get (D := D) (ci := 7) (v := .ref (ad 22)) (C := zR_Work) (T := zF_Work) (N := 14) hx hb ht zi_Work hown hK hP 23 rfl rfl 4 (by decide) (ht _ zw_257) (fun _ h9 => h9) rfl zd_Work_doTransfer_323 ?_
                                      refine va_getN (D := D) (ci := 4) (v := .int kv) (C := zR_Kept) (T := zF_Kept) (N := 4) hx hb ht zi_Kept hown hK hP 16 rfl rfl 3 (by decide) (hE.nw zx_16) (fun _ h9 => h9) rfl zd_Work_doTransfer_326 ?_
                                      refine lv_if_ne (tgt := 336) hx hb zd_Work_doTransfer_329 (by decide) (fun c_26 => ?_) (fun c_26 => ?_)
                                      · have h := zq_if c_26 h
                                        refine lv_iconst (v := 0) hx hb zd_Work_doTransfer_336 (by decide) ?_
                                        exact hret 0  _ H locs 337 ls ⟨rv, rm, bc, kn, kv, wn, wf, wt, wv, xq, xe, xh, xb, cn, rfl, h⟩ hP rfl hS zd_Work_doTransfer_337
                                      · have h := zq_it c_26 h
                                        refine lv_iconst (v := 5) hx hb zd_Work_doTransfer_332 (by decide) ?_
                                        refine lv_goto (tgt := 337) hx hb zd_Work_doTransfer_333 (by decide) ?_
                                        exact hret 5  _ H locs 337 ls ⟨rv, rm, bc, kn, kv, wn, wf, wt, wv, xq, xe, xh, xb, cn, rfl, h⟩ hP rfl hS zd_Work_doTransfer_337
                                    · have h := zq_if k16 h
                                      by_cases k17 : y2 = 21
                                      · have h := zq_it k17 h
                                        refine lv_tableIn (off := 212) (tgt := 338) hx hb zd_Work_doTransfer_126 (by rw [k17]; decide) (by rw [k17]; decide) (by rw [k17]; rfl) (by decide) ?_
                                        refine lv_aload_n hx hb zd_Work_doTransfer_338 rfl (lv_at hl 1 rfl) ?_
                                        refine lv_iconst (v := 1) hx hb zd_Work_doTransfer_339 (by decide) ?_
                                        refine va_put (D := D) (ci := 7) (v := .int 1) (ty := .boolean) (C := zR_Work) (T := zF_Work) (N := 14) hx hb ht zi_Work zt_Work zt_Work_ok zn_Work hown hK hP hD hS 23 rfl rfl 12 (by decide) (ht _ zw_223) (fun _ h9 => h9) rfl (by decide +kernel) rfl rfl (Nat.le_of_ble_eq_true rfl) zd_Work_doTransfer_340 (fun H locs hP hD hS => ?_)
                                        have hP : va_P D vwCl (W_Work_doTransfer kT ad rn rc rv rm bc ocn ofn oc ofr oto osg ptn pin po pa pb pt kn kv kp kl wn wf wt wv xw xp xr xq xe 1 xb cn) H := hP
                                        have hD : va_D A (W_Work_doTransfer kT ad rn rc rv rm bc ocn ofn oc ofr oto osg ptn pin po pa pb pt kn kv kp kl wn wf wt wv xw xp xr xq xe 1 xb cn) := hD
                                        refine lv_iconst (v := 0) hx hb zd_Work_doTransfer_343 (by decide) ?_
                                        exact hret 0  _ H locs 344 ls ⟨rv, rm, bc, kn, kv, wn, wf, wt, wv, xq, xe, 1, xb, cn, rfl, h⟩ hP rfl hS zd_Work_doTransfer_344
                                      · have h := zq_if k17 h
                                        by_cases k18 : y2 = 22
                                        · have h := zq_it k18 h
                                          refine lv_tableIn (off := 219) (tgt := 345) hx hb zd_Work_doTransfer_126 (by rw [k18]; decide) (by rw [k18]; decide) (by rw [k18]; rfl) (by decide) ?_
                                          refine lv_aload_n hx hb zd_Work_doTransfer_345 rfl (lv_at hl 1 rfl) ?_
                                          refine zq_c_Vi (rest := []) ⟨hx, hb, hml, hown, ht⟩ (c_Work_goBack l D kT ad rn rc rv rm bc kn kv kp kl wn wf wt wv xw xp xr xq xe xh xb _ h) (cwV 0 ht (zq_gV zw_274 zw_275 zw_276 zw_233 zw_277) rfl rfl rfl zh_Work_goBack ⟨Nat.le_of_ble_eq_true rfl, Nat.le_of_ble_eq_true rfl⟩) hE hP hD hS hA [0, 1, 2, 3, 4, 5, 16, 17, 18, 19, 20, 21, 22, 23] [6, 7, 8, 9, 10, 11, 12, 13, 14, 15, 24] 25 rfl rfl rfl (by decide) 13 rfl rfl rfl rfl hl.1 (Nat.le_of_ble_eq_true rfl) rfl zd_Work_doTransfer_346 ⟨Nat.zero_le _, Nat.zero_le _⟩ (fun r_38 w1 H locs hw hJ hS => ?_)
                                          obtain ⟨rv_27, rm_28, bc_29, kn_30, kv_31, wn_32, wf_33, wt_34, wv_35, xq_36, xb_37, rfl, h⟩ := hw
                                          obtain ⟨hP, hD⟩ := hJ (W_Work_doTransfer kT ad rn rc rv_27 rm_28 bc_29 ocn ofn oc ofr oto osg ptn pin po pa pb pt kn_30 kv_31 kp kl wn_32 wf_33 wt_34 wv_35 xw xp xr xq_36 xe xh xb_37 cn) rfl rfl rfl
                                          exact hret r_38  _ H locs 349 ls ⟨rv_27, rm_28, bc_29, kn_30, kv_31, wn_32, wf_33, wt_34, wv_35, xq_36, xe, xh, xb_37, cn, rfl, h⟩ hP rfl hS zd_Work_doTransfer_349
                                        · have h := zq_if k18 h
                                          refine lv_tableOut (tgt := 350) hx hb zd_Work_doTransfer_126 (by have q0 := lv_neT k0 (a := 4) (by decide); have q1 := lv_neT k1 (a := 5) (by decide); have q2 := lv_neT k2 (a := 6) (by decide); have q3 := lv_neT k3 (a := 7) (by decide); have q4 := lv_neT k4 (a := 8) (by decide); have q5 := lv_neT k5 (a := 9) (by decide); have q6 := lv_neT k6 (a := 10) (by decide); have q7 := lv_neT k7 (a := 11) (by decide); have q8 := lv_neT k8 (a := 12) (by decide); have q9 := lv_neT k9 (a := 13) (by decide); have q10 := lv_neT k10 (a := 14) (by decide); have q11 := lv_neT k11 (a := 15) (by decide); have q12 := lv_neT k12 (a := 16) (by decide); have q13 := lv_neT k13 (a := 17) (by decide); have q14 := lv_neT k14 (a := 18) (by decide); have q15 := lv_neT k15 (a := 19) (by decide); have q16 := lv_neT k16 (a := 20) (by decide); have q17 := lv_neT k17 (a := 21) (by decide); have q18 := lv_neT k18 (a := 22) (by decide); omega) (by decide) ?_
                                          exact B350 rv rm bc kn kv wn wf wt wv xq xe xh xb cn y2 y3 y4 y6 z0 H locs ls h hP hD hS (lv_sub hl [1, 2, 3, 4, 5, 0] rfl)
  have B111 : ∀  (rv : Nat → Int64) (rm : Nat → Int32) (bc : Nat → Int32) (kn : Int32) (kv : Int32) (wn : Int32) (wf : Nat → Int32) (wt : Nat → Int32) (wv : Nat → Int64) (xq : Int32) (xe : Int32) (xh : Int32) (xb : Int32) (cn : Nat → Int32) (y2 : Int32) (y3 : Int32) (y4 : Int64) (y6 : Int64) (z0 : Int32) (H : Heap) (locs : List Loc) (ls : Array Slot), wp_Work_doTransfer_111 rn rc ocn ofn oc ofr oto osg ptn pin po pa pb pt kp kl xw xp xr rv rm bc kn kv wn wf wt wv xq xe xh xb cn y2 y3 y4 y6 z0 post → va_P D vwCl (W_Work_doTransfer kT ad rn rc rv rm bc ocn ofn oc ofr oto osg ptn pin po pa pb pt kn kv kp kl wn wf wt wv xw xp xr xq xe xh xb cn) H → va_D A (W_Work_doTransfer kT ad rn rc rv rm bc ocn ofn oc ofr oto osg ptn pin po pa pb pt kn kv kp kl wn wf wt wv xw xp xr xq xe xh xb cn) → va_S A s.heap H locs → lv_has ls 10 [(0, .ref (ad 32)), (2, .int y2), (3, .int y3), (4, .long y4), (6, .long y6)] → W p l e ({ frames := 4, cells := 0, slots := 0, locals := 101 }) s m AV below meth c H locs 0 0 QQ (F0 m 111 ls [.int z0]) := by
    intro rv rm bc kn kv wn wf wt wv xq xe xh xb cn y2 y3 y4 y6 z0 H locs ls h hP hD hS hl
    refine lv_istore (lv' := [(8, .int z0), (0, .ref (ad 32)), (2, .int y2), (3, .int y3), (4, .long y4), (6, .long y6)]) hx hb zd_Work_doTransfer_111 hl (by decide) rfl (fun ls hl => ?_)
    refine lv_iload hx hb zd_Work_doTransfer_113 (lv_at hl 0 rfl) ?_
    refine lv_if_eq (tgt := 122) hx hb zd_Work_doTransfer_115 (by decide) (fun c_14 => ?_) (fun c_14 => ?_)
    · have h := zq_it c_14 h
      refine lv_iconst (v := 0) hx hb zd_Work_doTransfer_122 (by decide) ?_
      exact B123 rv rm bc kn kv wn wf wt wv xq xe xh xb cn y2 y3 y4 y6 0 H locs ls h hP hD hS (lv_sub hl [1, 2, 3, 4, 5] rfl)
    · have h := zq_if c_14 h
      refine lv_iconst (v := 1) hx hb zd_Work_doTransfer_118 (by decide) ?_
      refine lv_goto (tgt := 123) hx hb zd_Work_doTransfer_119 (by decide) ?_
      exact B123 rv rm bc kn kv wn wf wt wv xq xe xh xb cn y2 y3 y4 y6 1 H locs ls h hP hD hS (lv_sub hl [1, 2, 3, 4, 5] rfl)
  have B106 : ∀  (rv : Nat → Int64) (rm : Nat → Int32) (bc : Nat → Int32) (kn : Int32) (kv : Int32) (wn : Int32) (wf : Nat → Int32) (wt : Nat → Int32) (wv : Nat → Int64) (xq : Int32) (xe : Int32) (xh : Int32) (xb : Int32) (cn : Nat → Int32) (y2 : Int32) (y3 : Int32) (y4 : Int64) (y6 : Int64) (H : Heap) (locs : List Loc) (ls : Array Slot), wp_Work_doTransfer_106 rn rc ocn ofn oc ofr oto osg ptn pin po pa pb pt kp kl xw xp xr rv rm bc kn kv wn wf wt wv xq xe xh xb cn y2 y3 y4 y6 post → va_P D vwCl (W_Work_doTransfer kT ad rn rc rv rm bc ocn ofn oc ofr oto osg ptn pin po pa pb pt kn kv kp kl wn wf wt wv xw xp xr xq xe xh xb cn) H → va_D A (W_Work_doTransfer kT ad rn rc rv rm bc ocn ofn oc ofr oto osg ptn pin po pa pb pt kn kv kp kl wn wf wt wv xw xp xr xq xe xh xb cn) → va_S A s.heap H locs → lv_has ls 10 [(0, .ref (ad 32)), (2, .int y2), (3, .int y3), (4, .long y4), (6, .long y6)] → W p l e ({ frames := 4, cells := 0, slots := 0, locals := 101 }) s m AV below meth c H locs 0 0 QQ (F0 m 106 ls []) := by
    intro rv rm bc kn kv wn wf wt wv xq xe xh xb cn y2 y3 y4 y6 H locs ls h hP hD hS hl
    refine lv_iconst (v := 1) hx hb zd_Work_doTransfer_106 (by decide) ?_
    refine lv_goto (tgt := 111) hx hb zd_Work_doTransfer_107 (by decide) ?_
    exact B111 rv rm bc kn kv wn wf wt wv xq xe xh xb cn y2 y3 y4 y6 1 H locs ls h hP hD hS (lv_sub hl [0, 1, 2, 3, 4] rfl)
  have B110 : ∀  (rv : Nat → Int64) (rm : Nat → Int32) (bc : Nat → Int32) (kn : Int32) (kv : Int32) (wn : Int32) (wf : Nat → Int32) (wt : Nat → Int32) (wv : Nat → Int64) (xq : Int32) (xe : Int32) (xh : Int32) (xb : Int32) (cn : Nat → Int32) (y2 : Int32) (y3 : Int32) (y4 : Int64) (y6 : Int64) (H : Heap) (locs : List Loc) (ls : Array Slot), wp_Work_doTransfer_110 rn rc ocn ofn oc ofr oto osg ptn pin po pa pb pt kp kl xw xp xr rv rm bc kn kv wn wf wt wv xq xe xh xb cn y2 y3 y4 y6 post → va_P D vwCl (W_Work_doTransfer kT ad rn rc rv rm bc ocn ofn oc ofr oto osg ptn pin po pa pb pt kn kv kp kl wn wf wt wv xw xp xr xq xe xh xb cn) H → va_D A (W_Work_doTransfer kT ad rn rc rv rm bc ocn ofn oc ofr oto osg ptn pin po pa pb pt kn kv kp kl wn wf wt wv xw xp xr xq xe xh xb cn) → va_S A s.heap H locs → lv_has ls 10 [(0, .ref (ad 32)), (2, .int y2), (3, .int y3), (4, .long y4), (6, .long y6)] → W p l e ({ frames := 4, cells := 0, slots := 0, locals := 101 }) s m AV below meth c H locs 0 0 QQ (F0 m 110 ls []) := by
    intro rv rm bc kn kv wn wf wt wv xq xe xh xb cn y2 y3 y4 y6 H locs ls h hP hD hS hl
    refine lv_iconst (v := 0) hx hb zd_Work_doTransfer_110 (by decide) ?_
    exact B111 rv rm bc kn kv wn wf wt wv xq xe xh xb cn y2 y3 y4 y6 0 H locs ls h hP hD hS (lv_sub hl [0, 1, 2, 3, 4] rfl)
  refine lv_aload_n hx hb zd_Work_doTransfer_0 rfl (lv_at hl 0 rfl) ?_
  refine va_get (D := D) (ci := 7) (v := .ref (ad 12)) (C := zR_Work) (T := zF_Work) (N := 14) hx hb ht zi_Work hown hK hP 23 rfl rfl 3 (by decide) (ht _ zw_213) (fun _ h9 => h9) rfl zd_Work_doTransfer_1 ?_
  refine va_getN (D := D) (ci := 3) (v := .ref (ad 13)) (C := zR_Program) (T := zF_Program) (N := 11) hx hb ht zi_Program hown hK hP 11 rfl rfl 0 (by decide) (hE.nw zx_5) (fun _ h9 => h9) rfl zd_Work_doTransfer_4 ?_
  refine lv_iload_n hx hb zd_Work_doTransfer_7 rfl (lv_at hl 1 rfl) ?_
  obtain ⟨hi_1, h⟩ := h
  refine zq_a_iald (D := D) hx hb hK hP 12 0 rfl rfl hi_1 rfl zd_Work_doTransfer_8 ?_
  refine lv_istore_n (lv' := [(2, .int (po p0.toNatClampNeg)), (0, .ref (ad 32)), (1, .int p0)]) hx hb zd_Work_doTransfer_9 rfl hl (by decide) rfl (fun ls hl => ?_)
  refine lv_aload_n hx hb zd_Work_doTransfer_10 rfl (lv_at hl 1 rfl) ?_
  refine va_get (D := D) (ci := 7) (v := .ref (ad 12)) (C := zR_Work) (T := zF_Work) (N := 14) hx hb ht zi_Work hown hK hP 23 rfl rfl 3 (by decide) (ht _ zw_213) (fun _ h9 => h9) rfl zd_Work_doTransfer_11 ?_
  refine va_getN (D := D) (ci := 3) (v := .ref (ad 16)) (C := zR_Program) (T := zF_Program) (N := 11) hx hb ht zi_Program hown hK hP 11 rfl rfl 3 (by decide) (hE.nw zx_8) (fun _ h9 => h9) rfl zd_Work_doTransfer_14 ?_
  refine lv_iload_n hx hb zd_Work_doTransfer_17 rfl (lv_at hl 2 rfl) ?_
  obtain ⟨hi_2, h⟩ := h
  refine zq_a_iald (D := D) hx hb hK hP 15 0 rfl rfl hi_2 rfl zd_Work_doTransfer_18 ?_
  refine lv_istore_n (lv' := [(3, .int (pt p0.toNatClampNeg)), (2, .int (po p0.toNatClampNeg)), (0, .ref (ad 32)), (1, .int p0)]) hx hb zd_Work_doTransfer_19 rfl hl (by decide) rfl (fun ls hl => ?_)
  refine lv_aload_n hx hb zd_Work_doTransfer_20 rfl (lv_at hl 2 rfl) ?_
  refine va_get (D := D) (ci := 7) (v := .ref (ad 7)) (C := zR_Work) (T := zF_Work) (N := 14) hx hb ht zi_Work hown hK hP 23 rfl rfl 2 (by decide) (ht _ zw_264) (fun _ h9 => h9) rfl zd_Work_doTransfer_21 ?_
  refine lv_aload_n hx hb zd_Work_doTransfer_24 rfl (lv_at hl 2 rfl) ?_
  refine va_get (D := D) (ci := 7) (v := .ref (ad 12)) (C := zR_Work) (T := zF_Work) (N := 14) hx hb ht zi_Work hown hK hP 23 rfl rfl 3 (by decide) (ht _ zw_213) (fun _ h9 => h9) rfl zd_Work_doTransfer_25 ?_
  refine va_getN (D := D) (ci := 3) (v := .ref (ad 14)) (C := zR_Program) (T := zF_Program) (N := 11) hx hb ht zi_Program hown hK hP 11 rfl rfl 1 (by decide) (hE.nw zx_6) (fun _ h9 => h9) rfl zd_Work_doTransfer_28 ?_
  refine lv_iload_n hx hb zd_Work_doTransfer_31 rfl (lv_at hl 3 rfl) ?_
  obtain ⟨hi_3, h⟩ := h
  refine zq_a_iald (D := D) hx hb hK hP 13 0 rfl rfl hi_3 rfl zd_Work_doTransfer_32 ?_
  refine lv_aload_n hx hb zd_Work_doTransfer_33 rfl (lv_at hl 2 rfl) ?_
  refine va_get (D := D) (ci := 7) (v := .int xw) (C := zR_Work) (T := zF_Work) (N := 14) hx hb ht zi_Work hown hK hP 23 rfl rfl 7 (by decide) (ht _ zw_212) (fun _ h9 => h9) rfl zd_Work_doTransfer_34 ?_
  refine zq_c_Vl (rest := []) ⟨hx, hb, hml, hown, ht⟩ (c_Operands_read l D kT ad rn rv ocn ofn oc ofr oto osg (pa p0.toNatClampNeg) xw _ h) (cwV 2 ht (zq_gV zw_265 zw_266 zw_267 zw_155 zw_268) rfl rfl rfl zh_Operands_read ⟨Nat.le_of_ble_eq_true rfl, Nat.le_of_ble_eq_true rfl⟩) hE hP hD hS hA [0, 2, 6, 7, 8, 9, 10] [1, 3, 4, 5, 11, 12, 13, 14, 15, 16, 17, 18, 19, 20, 21, 22, 23, 24] 25 rfl rfl rfl (by decide) 2 rfl rfl rfl rfl hl.1 (Nat.le_of_ble_eq_true rfl) rfl zd_Work_doTransfer_37 ⟨Nat.zero_le _, Nat.zero_le _⟩ (fun r_4 w1 H locs hw hJ hS => ?_)
  obtain ⟨rfl, h⟩ := hw
  obtain ⟨hP, hD⟩ := hJ (W_Work_doTransfer kT ad rn rc rv rm bc ocn ofn oc ofr oto osg ptn pin po pa pb pt kn kv kp kl wn wf wt wv xw xp xr xq xe xh xb cn) rfl rfl rfl
  refine lv_lstore (lv' := [(4, .long r_4), (3, .int (pt p0.toNatClampNeg)), (2, .int (po p0.toNatClampNeg)), (0, .ref (ad 32)), (1, .int p0)]) hx hb zd_Work_doTransfer_40 hl (by decide) rfl (fun ls hl => ?_)
  refine lv_aload_n hx hb zd_Work_doTransfer_42 rfl (lv_at hl 3 rfl) ?_
  refine va_get (D := D) (ci := 7) (v := .ref (ad 7)) (C := zR_Work) (T := zF_Work) (N := 14) hx hb ht zi_Work hown hK hP 23 rfl rfl 2 (by decide) (ht _ zw_264) (fun _ h9 => h9) rfl zd_Work_doTransfer_43 ?_
  refine lv_aload_n hx hb zd_Work_doTransfer_46 rfl (lv_at hl 3 rfl) ?_
  refine va_get (D := D) (ci := 7) (v := .ref (ad 12)) (C := zR_Work) (T := zF_Work) (N := 14) hx hb ht zi_Work hown hK hP 23 rfl rfl 3 (by decide) (ht _ zw_213) (fun _ h9 => h9) rfl zd_Work_doTransfer_47 ?_
  refine va_getN (D := D) (ci := 3) (v := .ref (ad 15)) (C := zR_Program) (T := zF_Program) (N := 11) hx hb ht zi_Program hown hK hP 11 rfl rfl 2 (by decide) (hE.nw zx_7) (fun _ h9 => h9) rfl zd_Work_doTransfer_50 ?_
  refine lv_iload_n hx hb zd_Work_doTransfer_53 rfl (lv_at hl 4 rfl) ?_
  obtain ⟨hi_5, h⟩ := h
  refine zq_a_iald (D := D) hx hb hK hP 14 0 rfl rfl hi_5 rfl zd_Work_doTransfer_54 ?_
  refine lv_aload_n hx hb zd_Work_doTransfer_55 rfl (lv_at hl 3 rfl) ?_
  refine va_get (D := D) (ci := 7) (v := .int xw) (C := zR_Work) (T := zF_Work) (N := 14) hx hb ht zi_Work hown hK hP 23 rfl rfl 7 (by decide) (ht _ zw_212) (fun _ h9 => h9) rfl zd_Work_doTransfer_56 ?_
  refine zq_c_Vl (rest := []) ⟨hx, hb, hml, hown, ht⟩ (c_Operands_read l D kT ad rn rv ocn ofn oc ofr oto osg (pb p0.toNatClampNeg) xw _ h) (cwV 2 ht (zq_gV zw_265 zw_266 zw_267 zw_155 zw_268) rfl rfl rfl zh_Operands_read ⟨Nat.le_of_ble_eq_true rfl, Nat.le_of_ble_eq_true rfl⟩) hE hP hD hS hA [0, 2, 6, 7, 8, 9, 10] [1, 3, 4, 5, 11, 12, 13, 14, 15, 16, 17, 18, 19, 20, 21, 22, 23, 24] 25 rfl rfl rfl (by decide) 2 rfl rfl rfl rfl hl.1 (Nat.le_of_ble_eq_true rfl) rfl zd_Work_doTransfer_59 ⟨Nat.zero_le _, Nat.zero_le _⟩ (fun r_6 w1 H locs hw hJ hS => ?_)
  obtain ⟨rfl, h⟩ := hw
  obtain ⟨hP, hD⟩ := hJ (W_Work_doTransfer kT ad rn rc rv rm bc ocn ofn oc ofr oto osg ptn pin po pa pb pt kn kv kp kl wn wf wt wv xw xp xr xq xe xh xb cn) rfl rfl rfl
  refine lv_lstore (lv' := [(6, .long r_6), (4, .long r_4), (3, .int (pt p0.toNatClampNeg)), (2, .int (po p0.toNatClampNeg)), (0, .ref (ad 32)), (1, .int p0)]) hx hb zd_Work_doTransfer_62 hl (by decide) rfl (fun ls hl => ?_)
  refine lv_aload_n hx hb zd_Work_doTransfer_64 rfl (lv_at hl 4 rfl) ?_
  refine va_get (D := D) (ci := 7) (v := .ref (ad 7)) (C := zR_Work) (T := zF_Work) (N := 14) hx hb ht zi_Work hown hK hP 23 rfl rfl 2 (by decide) (ht _ zw_264) (fun _ h9 => h9) rfl zd_Work_doTransfer_65 ?_
  refine lv_aload_n hx hb zd_Work_doTransfer_68 rfl (lv_at hl 4 rfl) ?_
  refine va_get (D := D) (ci := 7) (v := .ref (ad 12)) (C := zR_Work) (T := zF_Work) (N := 14) hx hb ht zi_Work hown hK hP 23 rfl rfl 3 (by decide) (ht _ zw_213) (fun _ h9 => h9) rfl zd_Work_doTransfer_69 ?_
  refine va_getN (D := D) (ci := 3) (v := .ref (ad 14)) (C := zR_Program) (T := zF_Program) (N := 11) hx hb ht zi_Program hown hK hP 11 rfl rfl 1 (by decide) (hE.nw zx_6) (fun _ h9 => h9) rfl zd_Work_doTransfer_72 ?_
  refine lv_iload_n hx hb zd_Work_doTransfer_75 rfl (lv_at hl 5 rfl) ?_
  obtain ⟨hi_7, h⟩ := h
  refine zq_a_iald (D := D) hx hb hK hP 13 0 rfl rfl hi_7 rfl zd_Work_doTransfer_76 ?_
  refine zq_c_Vi (rest := []) ⟨hx, hb, hml, hown, ht⟩ (c_Operands_isMarked l D kT ad rn rm ocn ofn (pa p0.toNatClampNeg) _ h) (cwV 1 ht (zq_gV zw_269 zw_270 zw_271 zw_155 zw_272) rfl rfl rfl zh_Operands_isMarked ⟨Nat.le_of_ble_eq_true rfl, Nat.le_of_ble_eq_true rfl⟩) hE hP hD hS hA [0, 3, 6] [1, 2, 4, 5, 7, 8, 9, 10, 11, 12, 13, 14, 15, 16, 17, 18, 19, 20, 21, 22, 23, 24] 25 rfl rfl rfl (by decide) 2 rfl rfl rfl rfl hl.1 (Nat.le_of_ble_eq_true rfl) rfl zd_Work_doTransfer_77 ⟨Nat.zero_le _, Nat.zero_le _⟩ (fun r_8 w1 H locs hw hJ hS => ?_)
  obtain ⟨rfl, h⟩ := hw
  obtain ⟨hP, hD⟩ := hJ (W_Work_doTransfer kT ad rn rc rv rm bc ocn ofn oc ofr oto osg ptn pin po pa pb pt kn kv kp kl wn wf wt wv xw xp xr xq xe xh xb cn) rfl rfl rfl
  refine lv_if_ne (tgt := 106) hx hb zd_Work_doTransfer_80 (by decide) (fun c_9 => ?_) (fun c_9 => ?_)
  · have h := zq_if c_9 h
    exact B106 rv rm bc kn kv wn wf wt wv xq xe xh xb cn (po p0.toNatClampNeg) (pt p0.toNatClampNeg) r_4 r_6 H locs ls h hP hD hS (lv_sub hl [4, 3, 2, 1, 0] rfl)
  · have h := zq_it c_9 h
    refine lv_iload_n hx hb zd_Work_doTransfer_83 rfl (lv_at hl 3 rfl) ?_
    refine lv_if_eq (tgt := 110) hx hb zd_Work_doTransfer_84 (by decide) (fun c_10 => ?_) (fun c_10 => ?_)
    · have h := zq_it c_10 h
      exact B110 rv rm bc kn kv wn wf wt wv xq xe xh xb cn (po p0.toNatClampNeg) (pt p0.toNatClampNeg) r_4 r_6 H locs ls h hP hD hS (lv_sub hl [4, 3, 2, 1, 0] rfl)
    · have h := zq_if c_10 h
      refine lv_aload_n hx hb zd_Work_doTransfer_87 rfl (lv_at hl 4 rfl) ?_
      refine va_get (D := D) (ci := 7) (v := .ref (ad 7)) (C := zR_Work) (T := zF_Work) (N := 14) hx hb ht zi_Work hown hK hP 23 rfl rfl 2 (by decide) (ht _ zw_264) (fun _ h9 => h9) rfl zd_Work_doTransfer_88 ?_
      refine lv_aload_n hx hb zd_Work_doTransfer_91 rfl (lv_at hl 4 rfl) ?_
      refine va_get (D := D) (ci := 7) (v := .ref (ad 12)) (C := zR_Work) (T := zF_Work) (N := 14) hx hb ht zi_Work hown hK hP 23 rfl rfl 3 (by decide) (ht _ zw_213) (fun _ h9 => h9) rfl zd_Work_doTransfer_92 ?_
      refine va_getN (D := D) (ci := 3) (v := .ref (ad 15)) (C := zR_Program) (T := zF_Program) (N := 11) hx hb ht zi_Program hown hK hP 11 rfl rfl 2 (by decide) (hE.nw zx_7) (fun _ h9 => h9) rfl zd_Work_doTransfer_95 ?_
      refine lv_iload_n hx hb zd_Work_doTransfer_98 rfl (lv_at hl 5 rfl) ?_
      obtain ⟨hi_11, h⟩ := h
      refine zq_a_iald (D := D) hx hb hK hP 14 0 rfl rfl hi_11 rfl zd_Work_doTransfer_99 ?_
      refine zq_c_Vi (rest := []) ⟨hx, hb, hml, hown, ht⟩ (c_Operands_isMarked l D kT ad rn rm ocn ofn (pb p0.toNatClampNeg) _ h) (cwV 1 ht (zq_gV zw_269 zw_270 zw_271 zw_155 zw_272) rfl rfl rfl zh_Operands_isMarked ⟨Nat.le_of_ble_eq_true rfl, Nat.le_of_ble_eq_true rfl⟩) hE hP hD hS hA [0, 3, 6] [1, 2, 4, 5, 7, 8, 9, 10, 11, 12, 13, 14, 15, 16, 17, 18, 19, 20, 21, 22, 23, 24] 25 rfl rfl rfl (by decide) 2 rfl rfl rfl rfl hl.1 (Nat.le_of_ble_eq_true rfl) rfl zd_Work_doTransfer_100 ⟨Nat.zero_le _, Nat.zero_le _⟩ (fun r_12 w1 H locs hw hJ hS => ?_)
      obtain ⟨rfl, h⟩ := hw
      obtain ⟨hP, hD⟩ := hJ (W_Work_doTransfer kT ad rn rc rv rm bc ocn ofn oc ofr oto osg ptn pin po pa pb pt kn kv kp kl wn wf wt wv xw xp xr xq xe xh xb cn) rfl rfl rfl
      refine lv_if_eq (tgt := 110) hx hb zd_Work_doTransfer_103 (by decide) (fun c_13 => ?_) (fun c_13 => ?_)
      · have h := zq_it c_13 h
        exact B110 rv rm bc kn kv wn wf wt wv xq xe xh xb cn (po p0.toNatClampNeg) (pt p0.toNatClampNeg) r_4 r_6 H locs ls h hP hD hS (lv_sub hl [4, 3, 2, 1, 0] rfl)
      · have h := zq_if c_13 h
        exact B106 rv rm bc kn kv wn wf wt wv xq xe xh xb cn (po p0.toNatClampNeg) (pt p0.toNatClampNeg) r_4 r_6 H locs ls h hP hD hS (lv_sub hl [4, 3, 2, 1, 0] rfl)

/-! What is checked of the tables, method by method: that each row is what the code decodes to, and that its words stand in lw_tbl -/
def zlenI (i : Instr) (k : Nat) : Nat := match i with
  | .aload _ | .iload _ | .lload _ | .fload _ | .dload _ | .astore _ | .istore _ | .lstore _ | .fstore _ | .dstore _ | .bipush _ | .newarray _ | .ldc _ => 2
  | .iinc _ _ | .sipush _ | .ldc_w _ | .ldc2_w _ | .goto _ | .getfield _ | .putfield _ | .invokestatic _ | .invokevirtual _ | .invokespecial _ | .new _ | .anewarray _ | .checkcast _ | .ifCond _ _ | .if_icmp _ _ | .ifnull _ | .ifnonnull _ => 3
  | .multianewarray _ _ => 4
  | .lookupswitch _ _ | .tableswitch _ _ _ _ => k
  | _ => 1
def zcloneN : MethodName := ⟨"[I", "clone", "()Ljava/lang/Object;"⟩
def zobjClone : MethodName := ⟨"java/lang/Object", "clone", "()Ljava/lang/Object;"⟩
/-- the natives' names -/
def znat (aux : Nat) : MethodName := match aux with
  | 900 => Lib.Math.max.name
  | 901 => Lib.Math.min.name
  | 902 => Lib.Math.abs.name
  | 903 => Lib.MathLoose.min_long.x
  | 904 => arraycopyName
  | 905 => zcloneN
  | _ => Lib.objectInit
def zaN (aux : Nat) : String := match aux with
  | 7 => "TurnFace$Puzzle"
  | _ => "TurnFace$Round"
noncomputable def zchkO (y pc : Nat) (e : zE) : Bool := match e with
  | (ins, nxt, aux, pos) => match ins with
    | .aload_n k | .iload_n k | .lload_n k | .fload_n k | .dload_n k | .astore_n k | .istore_n k | .lstore_n k | .fstore_n k | .dstore_n k => Nat.beq k.val aux
    | .aload k | .iload k | .lload k | .fload k | .dload k | .astore k | .istore k | .lstore k | .fstore k | .dstore k => Nat.beq k aux
    | .iinc k n => Nat.beq k aux && decide (zcn n = Int32.ofInt n)
    | .iconst n => decide (Int32.ofInt n = zcn n)
    | .bipush n => decide ((Int8.ofInt n).toInt32 = zcn n)
    | .sipush n => decide ((Int16.ofInt n).toInt32 = zcn n)
    | .fconst k => Nat.beq k.val 0
    | .dconst k => Nat.beq k.val 0
    | .ldc_w idx => Nat.beq pos 0 || zwd pos (.constant (zown y) idx (zcn (zldI pos)))
    | .ldc2_w idx => zwd pos (.constantLong (zown y) idx (Int64.ofInt (zldL pos)))
    | .ifCond _ off | .if_icmp _ off => decide ((pc : Int) + off = (aux : Int))
    | .goto off | .ifnull off | .ifnonnull off => decide ((pc : Int) + off = (aux : Int))
    | .getfield idx => Nat.blt (aux / 64) 8 && Nat.blt (aux % 64) (zNf (aux / 64)) && zwd pos (.fieldLink (zown y) idx (zT (aux / 64) (aux % 64)).1 (zT (aux / 64) (aux % 64)).2.1 (zT (aux / 64) (aux % 64)).2.2.1)
    | .putfield idx => Nat.blt (aux / 64) 8 && Nat.blt (aux % 64) (zNf (aux / 64)) && zwd pos (.fieldLink (zown y) idx (zT (aux / 64) (aux % 64)).1 (zT (aux / 64) (aux % 64)).2.1 (zT (aux / 64) (aux % 64)).2.2.1) &&
        (!(zT (aux / 64) (aux % 64)).2.2.2 || (Nat.beq (zkd y) 2 && decide ((zT (aux / 64) (aux % 64)).1 = zown y)))
    | .invokestatic idx => zwd pos (.methodLink (zown y) idx (bif Nat.ble 900 aux then znat aux else zname aux)) && (Nat.ble 900 aux || (Nat.blt aux 298 && Nat.beq (zkd aux) 0)) && (!Nat.ble 900 aux || Nat.beq aux 900 || Nat.beq aux 901 || Nat.beq aux 903)
    | .invokevirtual idx => zwd pos (.methodLink (zown y) idx (bif Nat.ble 900 aux then znat aux else zname aux)) && (Nat.blt aux 298 && Nat.beq (zkd aux) 1)
    | .invokespecial idx => Nat.beq aux 950 || (zwd pos (.methodLink (zown y) idx (bif Nat.ble 900 aux then znat aux else zname aux)) && (Nat.beq aux 906 || (Nat.blt aux 298 && Nat.beq (zkd aux) 2)))
    | .checkcast idx => zwd pos (.classLink (zown y) idx "[I")
    | .new idx => bif Nat.ble 1000 aux then (Nat.blt (aux - 1000) 34 && decide (zthm (aux - 1000) = (y, pc)) && Nat.beq (zthr (aux - 1000)).2.1 idx) else (Nat.blt aux 8 && zwd pos (.classLink (zown y) idx (zR aux)))
    | .newarray a => Nat.blt aux 5 && decide (newarray.typeOf a = zel aux)
    | .anewarray idx => (Nat.beq aux 7 || Nat.beq aux 8) && zwd pos (.classLink (zown y) idx (zaN aux))
    | .lookupswitch d ps => (ps.toList.zip (ps.toList.drop 1)).all (fun (a, next) => a.1 < next.1) && decide (0 ≤ (pc : Int) + d) && ps.toList.all (fun q => decide (0 ≤ (pc : Int) + q.2))
    | .tableswitch d lo hi offs => decide (hi + 1 - lo = (offs.size : Int)) && decide (0 ≤ (pc : Int) + d) && offs.toList.all (fun q => decide (0 ≤ (pc : Int) + q))
    | _ => true
noncomputable def zchkI (y pc : Nat) (e : zE) : Bool := decide (decode (zcode y) pc = .ok (e.1, zlenI e.1 (e.2.1 - pc))) && Nat.beq e.2.1 (pc + zlenI e.1 (e.2.1 - pc)) && zchkO y pc e
noncomputable def zchkP (y : Nat) : Nat → Bool
  | 0 => true
  | k + 1 => (match zopt y k with
    | none => true
    | some e => zchkI y k e) && zchkP y k
def zwdt (i : Nat) (w : Cond) : Bool := zwd i w
noncomputable def zword (y : Nat) : Cond := match zhh y with
  | [] => .code (zname y) (zcode y) (zmaxL y) (zret y)
  | hs => .codeWith (zname y) (zcode y) (zmaxL y) (zret y) hs
/-- of a method that is called: its words, its name, how it is called -/
noncomputable def zchkM (y : Nat) : Bool := zwd (zcp y) (zword y) && zwd (zip y) (.initialized (zown y)) && plainName (zname y).cls && decide ((zname y).cls = zown y) && decide (zown y ≠ "java/lang/invoke/MethodHandle") && decide (zown y ≠ "java/lang/invoke/VarHandle") &&
  decide ((parseMethodDescriptor (zname y).desc).map (fun d => d.parameters.length) = some (zna y)) && Nat.ble (zmaxL y) 26 &&
  (match zkd y with
    | 0 => zwd (zmp y) (.static (zname y))
    | 1 => zwd (zmp y) (.instanceMethod (zname y)) && zwd (zsp y) (.selects (zown y) (zname y) (zname y)) && Nat.blt (zrc y) 8 && decide (zR (zrc y) = zown y)
    | _ => zwd (zmp y) (.instanceMethod (zname y)) && Nat.blt (zrc y) 8 && decide (zR (zrc y) = zown y) && decide ((zname y).name = "<init>") && decide (zret y = none)) &&
  (zhs y).map (fun h => (h.1, h.2.1, h.2.2.1)) == (zhh y).map (fun h => (h.1, h.2.1, h.2.2.1)) && ((zhs y).zip (zhh y)).all (fun q => zwd q.1.2.2.2.2 (.classLink (zown y) q.2.2.2.2 (zexn q.1.2.2.2.1)) && Nat.blt q.1.2.2.2.1 5 && decide (q.2.2.2.2 ≠ 0))
/-- .. of the law, by ranges of places -/
noncomputable def zchkR (a n : Nat) : Bool := (List.range' a n).all (fun pc => match zopt 298 pc with
  | none => true
  | some e => zchkI 298 pc e)

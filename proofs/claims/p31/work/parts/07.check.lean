/-! WHAT HOLDS OF EACH WRITTEN STEP: it is the decoded one, and what it names stands among the words -/
def mj_own (Y : mj_Y) : String := Y.1
def mj_nam (Y : mj_Y) : MethodName := Y.2.1
def mj_byt (Y : mj_Y) : ByteArray := Y.2.2.1
def mj_max (Y : mj_Y) : Nat := Y.2.2.2.1
def mj_ret (Y : mj_Y) : Option FieldType := Y.2.2.2.2.1
def mj_pos (Y : mj_Y) : Nat := Y.2.2.2.2.2.1
def mj_frs (Y : mj_Y) : Nat := Y.2.2.2.2.2.2.1
def mj_los (Y : mj_Y) : Nat := Y.2.2.2.2.2.2.2
def mj_plain (x : MethodName) : Bool := decide (x.cls ≠ "java/lang/invoke/MethodHandle") && decide (x.cls ≠ "java/lang/invoke/VarHandle")
def mj_cod (Y : mj_Y) : Cond := .code (mj_nam Y) (mj_byt Y) (mj_max Y) (mj_ret Y)
/-- a callee: its code among the words, its room within the caller's, its number of arguments -/
def mj_cal (Y : mj_Y) (z n : Nat) (k : mj_Y → Bool) : Bool := match mj_yL[z]? with
  | some Z => (mj_wd (mj_pos Z) (mj_cod Z) && mj_plain (mj_nam Z)) && (decide ((parseMethodDescriptor (mj_nam Z).desc).map (fun d => d.parameters.length) = some n) && ((Nat.ble (mj_frs Z + 1) (mj_frs Y) && Nat.ble (8 + (mj_max Z + 11) + mj_los Z) (mj_los Y)) && k Z))
  | none => false
def mj_lnk (Y : mj_Y) (pc : Nat) (ins : Instr) (len : Nat) (lk : List Nat) (cv : Value) : Bool := match ins with
  | .iconst n => Nat.beq len 1 && decide (cv = .int (Int32.ofInt n))
  | .bipush n => Nat.beq len 2 && decide (cv = .int (Int8.ofInt n).toInt32)
  | .sipush n => Nat.beq len 3 && decide (cv = .int (Int16.ofInt n).toInt32)
  | .ldc k => Nat.beq len 2 && (match lk, cv with
    | [p], .int v => mj_wd p (.constant (mj_own Y) k v)
    | [_], _ => false
    | _, _ => true)
  | .ldc2_w k => Nat.beq len 3 && (match lk, cv with
    | [p], .long v => mj_wd p (.constantLong (mj_own Y) k v)
    | [_], _ => false
    | _, _ => true)
  | .iload_n k => Nat.beq len 1 && decide (lk = [k.val])
  | .iload k => Nat.beq len 2 && decide (lk = [k])
  | .istore_n k => Nat.beq len 1 && decide (lk = [k.val])
  | .istore k => Nat.beq len 2 && decide (lk = [k])
  | .lload_n k => Nat.beq len 1 && decide (lk = [k.val])
  | .lload k => Nat.beq len 2 && decide (lk = [k])
  | .lstore_n k => Nat.beq len 1 && decide (lk = [k.val])
  | .lstore k => Nat.beq len 2 && decide (lk = [k])
  | .aload_n k => Nat.beq len 1 && decide (lk = [k.val])
  | .aload k => Nat.beq len 2 && decide (lk = [k])
  | .astore_n k => Nat.beq len 1 && decide (lk = [k.val])
  | .astore k => Nat.beq len 2 && decide (lk = [k])
  | .iinc k z => Nat.beq len 3 && (decide (lk = [k]) && decide (cv = .int (Int32.ofInt z)))
  | .iadd => Nat.beq len 1
  | .isub => Nat.beq len 1
  | .imul => Nat.beq len 1
  | .iand => Nat.beq len 1
  | .ior => Nat.beq len 1
  | .ixor => Nat.beq len 1
  | .ishl => Nat.beq len 1
  | .ishr => Nat.beq len 1
  | .ladd => Nat.beq len 1
  | .lmul => Nat.beq len 1
  | .ineg => Nat.beq len 1
  | .i2l => Nat.beq len 1
  | .i2c => Nat.beq len 1
  | .lcmp => Nat.beq len 1
  | .dup => Nat.beq len 1
  | .pop => Nat.beq len 1
  | .dup2 => Nat.beq len 1
  | .idiv => Nat.beq len 1
  | .irem => Nat.beq len 1
  | .iaload => Nat.beq len 1
  | .caload => Nat.beq len 1
  | .iastore => Nat.beq len 1
  | .castore => Nat.beq len 1
  | .aaload => Nat.beq len 1
  | .arraylength => Nat.beq len 1
  | .lreturn => Nat.beq len 1 && decide (mj_ret Y = some .long)
  | .areturn => Nat.beq len 1 && decide (mj_ret Y = some (.array .int))
  | .return_ => Nat.beq len 1 && decide (mj_ret Y = none)
  | .goto z => Nat.beq len 3 && (match lk with
    | [t] => decide ((pc : Int) + z = (t : Int))
    | _ => true)
  | .ifCond _ z => Nat.beq len 3 && (match lk with
    | [t] => decide ((pc : Int) + z = (t : Int))
    | _ => true)
  | .if_icmp _ z => Nat.beq len 3 && (match lk with
    | [t] => decide ((pc : Int) + z = (t : Int))
    | _ => true)
  | .tableswitch d lo hi offs => match lk, cv with
    | t :: ts, .int l0 => (decide ((pc : Int) + d = (t : Int)) && (decide (l0.toInt = lo) && decide (-1000 ≤ lo ∧ lo ≤ 1000))) && ((decide (hi = lo + ts.length - 1) && decide (ts.length ≤ 1000)) && (List.range ts.length).all (fun j => decide ((offs[j]?).map (fun o => (pc : Int) + o) = (ts[j]?).map (fun (t : Nat) => (t : Int)))))
    | _, _ => true
  | .getfield n => Nat.beq len 3 && (match lk with
    | [ci, k, p] => (match mj_cl[ci]? with
      | some r => (Nat.blt k r.2.2 && decide ((r.2.1 k).1 = r.1)) && mj_wd p (.fieldLink (mj_own Y) n r.1 (r.2.1 k).2.1 (r.2.1 k).2.2.1)
      | none => false)
    | _ => decide (lk = []))
  | .putfield n => Nat.beq len 3 && (match lk with
    | [ci, k, fl, p] => (match mj_cl[ci]? with
      | some r => ((Nat.blt k r.2.2 && decide ((r.2.1 k).1 = r.1)) && mj_wd p (.fieldLink (mj_own Y) n r.1 (r.2.1 k).2.1 (r.2.1 k).2.2.1)) &&
          (((!(r.2.1 k).2.2.2) || (decide ((mj_nam Y).name = "<init>") && decide (r.1 = mj_own Y))) && (match parseFieldDescriptor (r.2.1 k).2.2.1 with
            | some .int => Nat.beq fl 0
            | some (.object _) => Nat.beq fl 1
            | some (.array _) => Nat.beq fl 1
            | _ => false))
      | none => false)
    | _ => decide (lk = []))
  | .getstatic n => Nat.beq len 3 && (match lk with
    | [p] => mj_wd p (.fieldLink (mj_own Y) n "SqueezedLines" "FORM_SIZES" "[I")
    | _ => decide (lk = []))
  | .aastore => Nat.beq len 1 && (match lk with
    | [ci] => (match mj_cl[ci]? with
      | some r => decide (r.1 = mj_el)
      | none => false)
    | _ => decide (lk = []))
  | .new n => Nat.beq len 3 && (match lk with
    | [ci, N, p1, p2, p3] => (match mj_cl[ci]? with
      | some r => Nat.beq r.2.2 N && (mj_wd p1 (.classLink (mj_own Y) n r.1) && (mj_wd p2 (.instantiable r.1 N) && mj_wd p3 (.initialized r.1)))
      | none => false)
    | _ => decide (lk = []))
  | .newarray ty => Nat.beq len 2 && (match lk with
    | [t, p] => (match ty with
      | .int => Nat.beq t 0 && mj_wd p (.arrayClass .int)
      | .char => Nat.beq t 1 && mj_wd p (.arrayClass .char)
      | _ => false)
    | _ => decide (lk = []))
  | .anewarray n => Nat.beq len 3 && (match lk with
    | [ci, p, _] => (match mj_cl[ci]? with
      | some r => decide (r.1 = mj_el) && mj_wd p (.classLink (mj_own Y) n r.1)
      | none => false)
    | _ => decide (lk = []))
  | .ireturn => Nat.beq len 1 && (match lk with
    | [0] => decide (mj_ret Y = some .int)
    | [1] => decide (mj_ret Y = some .boolean)
    | _ => true)
  | .invokevirtual n => Nat.beq len 3 && (match lk with
    | [1, z, na, ci, p1, p2, p3, p4] => (match mj_cl[ci]? with
      | some r => mj_cal Y z (na - 1) (fun Z => Nat.blt 0 na && (decide ((mj_nam Z).cls = r.1) && ((mj_wd p1 (.methodLink (mj_own Y) n (mj_nam Z)) && mj_wd p2 (.instanceMethod (mj_nam Z))) && (mj_wd p3 (.selects r.1 (mj_nam Z) (mj_nam Z)) && mj_wd p4 (.initialized r.1)))))
      | none => false)
    | _ => decide (lk = []))
  | .invokespecial n => Nat.beq len 3 && (match lk with
    | [2, z, na, p1, p2, p3] => mj_cal Y z (na - 1) (fun Z => Nat.blt 0 na && (decide ((mj_nam Z).name = "<init>") && (decide (mj_ret Z = none) && ((mj_wd p1 (.methodLink (mj_own Y) n (mj_nam Z)) && mj_wd p2 (.instanceMethod (mj_nam Z))) && mj_wd p3 (.initialized (mj_nam Z).cls)))))
    | [4, z, na, ni, p2, p3] => mj_cal Y z (na - 1) (fun Z => Nat.blt 0 na && (decide ((mj_nam Z).name = "<init>") && (decide (mj_ret Z = none) && ((decide (mj_nw[ni]? = some (.methodLinkNest (mj_own Y) n (mj_nam Z) "SqueezedLines")) && mj_wd p2 (.instanceMethod (mj_nam Z))) && mj_wd p3 (.initialized (mj_nam Z).cls)))))
    | [5, p1, p2, p3] => (mj_wd p1 (.methodLink (mj_own Y) n Lib.objectInit) && mj_wd p2 (.instanceMethod Lib.objectInit)) && (mj_wd p3 (.code Lib.objectInit ⟨#[0xb1]⟩ 1 none) && (Nat.ble 1 (mj_frs Y) && Nat.ble 12 (mj_los Y)))
    | _ => decide (lk = []))
  | .invokestatic n => Nat.beq len 3 && (match lk with
    | [0, z, na, p1, p2, p3] => mj_cal Y z na (fun Z => (mj_wd p1 (.methodLink (mj_own Y) n (mj_nam Z)) && mj_wd p2 (.static (mj_nam Z))) && mj_wd p3 (.initialized (mj_nam Z).cls))
    | [3, z, na, ni, p2, p3] => mj_cal Y z na (fun Z => (decide (mj_nw[ni]? = some (.methodLinkNest (mj_own Y) n (mj_nam Z) "SqueezedLines")) && mj_wd p2 (.static (mj_nam Z))) && mj_wd p3 (.initialized (mj_nam Z).cls))
    | [6, p1, p2, p3, p4] => (mj_wd p1 (.methodLink (mj_own Y) n arraycopyName) && mj_wd p2 (.native arraycopyName)) && ((mj_wd p3 (.static arraycopyName) && mj_wd p4 (.initialized "java/lang/System")) && (Nat.ble 1 (mj_frs Y) && Nat.ble 18 (mj_los Y)))
    | _ => decide (lk = []))
  | _ => true
def mj_chk (Y : mj_Y) (e : Nat × mj_I) : Bool := decide (decode (mj_byt Y) e.1 = .ok (e.2.1, e.2.2.1)) && mj_lnk Y e.1 e.2.1 e.2.2.1 e.2.2.2.1 e.2.2.2.2
